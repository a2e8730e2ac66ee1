import java.util.ArrayDeque;
import java.util.ArrayList;
import java.util.Arrays;
import java.util.Deque;
import java.util.List;
import java.util.Map;
import java.util.HashMap;
import java.util.Set;
import java.util.function.IntPredicate;

/**
 * A second reading of the document for the tests, as slow and as plain as can be: no shortcut, no row used
 * again, texts read by a table of the grammar and a stack. It shares no code with FamilyGlass.
 */
final class PlainGlass {
    static final class Fault extends Exception {
        final int number;
        final int place;

        Fault(int number, int place) {
            this.number = number;
            this.place = place;
        }
    }

    record Token(String kind, String text, int place) { }

    record Person(String name, int mood, int sway) { }

    record Doing(String name, int whose, int first, int last, int much) { }

    /** One reckoning: a law's tokens between '=' and ';'. */
    record Law(List<String> tokens, Set<String> vars) { }

    static final class Zero extends Exception { }

    static final List<String> WORDS = List.of("person", "doing", "needle", "changes", "drifts", "jumps", "slips", "seed",
            "if", "then", "else", "sum", "mood", "sway", "mark", "hour", "taps", "which", "much", "most");
    static final List<String> VARS = List.of("sum", "mood", "sway", "mark", "hour", "taps", "which", "much", "most");
    static final Set<String> ALL = Set.of("sum", "hour", "taps", "most");

    static final class Text {
        final List<Person> people = new ArrayList<>();
        final List<Doing> doings = new ArrayList<>();
        final Map<String, Law> laws = new HashMap<>();
        int slips;
        int seed;

        Text() {
            tellLaw("needle", List.of("sum"));
            tellLaw("changes", List.of("mood", "+", "much"));
            tellLaw("drifts", List.of("mood"));
            tellLaw("jumps", List.of("1"));
        }

        void tellLaw(String which, List<String> tokens) {
            Set<String> vars = new java.util.HashSet<>(ALL);
            if (which.equals("changes")) {
                vars.addAll(List.of("mood", "sway", "mark", "much", "which"));
            } else if (which.equals("drifts")) {
                vars.addAll(List.of("mood", "sway", "mark", "which"));
            } else if (which.equals("jumps")) {
                vars.add("mark");
            }
            laws.put(which, new Law(tokens, vars));
        }
    }

    record Hall(int[] moods, int hour, int taps, Set<Integer> forbidden) {
        Hall withMood(int person, int mood) {
            int[] m = moods.clone();
            m[person] = mood;
            return new Hall(m, hour, taps, forbidden);
        }

        Hall withTaps(int t) {
            return new Hall(moods, hour, t, forbidden);
        }

        Hall withForbidden(int doing, boolean so) {
            Set<Integer> f = new java.util.TreeSet<>(forbidden);
            if (so) {
                f.add(doing);
            } else {
                f.remove(doing);
            }
            return new Hall(moods, hour, taps, f);
        }

        int total() {
            return Arrays.stream(moods).sum();
        }

        int most() {
            return Arrays.stream(moods).max().orElse(0);
        }
    }

    record Told(int hour, int mark, boolean so) { }

    private byte[] tape = new byte[0];
    private Text text = new Text();
    private Hall now = new Hall(new int[0], 0, 0, Set.of());
    private final Deque<Hall> done = new ArrayDeque<>();
    private final Hall[] slots = new Hall[3];
    private final List<Told> told = new ArrayList<>();
    private int place = -1;

    // ---- texts

    static List<Token> tokens(byte[] tape) {
        List<Token> all = new ArrayList<>();
        int at = 0;
        while (true) {
            while (at < tape.length && (tape[at] == 9 || tape[at] == 10 || tape[at] == 13 || tape[at] == 32)) {
                at++;
            }
            if (at == tape.length) {
                all.add(new Token("end", "", at));
                return all;
            }
            int from = at;
            String kind;
            if (tape[at] >= 'a' && tape[at] <= 'z') {
                while (at < tape.length && tape[at] >= 'a' && tape[at] <= 'z') {
                    at++;
                }
                kind = at - from > 8 ? "none" : "NAME";
            } else if (tape[at] >= '0' && tape[at] <= '9') {
                while (at < tape.length && tape[at] >= '0' && tape[at] <= '9') {
                    at++;
                }
                kind = at - from > 4 ? "none" : "INT";
            } else {
                at++;
                kind = ";=+-*/<()".indexOf((char) (tape[from] & 255)) >= 0 ? "sign" : "none";
            }
            String word = new String(tape, from, at - from, java.nio.charset.StandardCharsets.ISO_8859_1);
            if (kind.equals("sign") || kind.equals("NAME") && WORDS.contains(word)) {
                kind = word;
            }
            all.add(new Token(kind, word, from));
        }
    }

    /** The grammar: what a symbol becomes where a token stands; null: nothing. */
    static String[] becomes(String symbol, String token) {
        boolean unit = token.equals("INT") || token.equals("(") || VARS.contains(token);
        switch (symbol) {
            case "TEXT":
                switch (token) {
                    case "end": return new String[] {"end"};
                    case "person": return new String[] {"person", "NAME", "INT", "INT", ";", "TEXT"};
                    case "doing": return new String[] {"doing", "NAME", "NAME", "INT", "INT", "INT", ";", "TEXT"};
                    case "needle": case "changes": case "drifts": case "jumps":
                        return new String[] {token, "=", "LAW", ";", "TEXT"};
                    case "slips": case "seed": return new String[] {token, "INT", ";", "TEXT"};
                    default: return null;
                }
            case "LAW":
                return token.equals("if") ? new String[] {"if", "E", "<", "E", "then", "E", "else", "LAW"}
                        : unit ? new String[] {"E"} : null;
            case "E": return unit ? new String[] {"PART", "EREST"} : null;
            case "EREST":
                return token.equals("+") || token.equals("-") ? new String[] {token, "PART", "EREST"} : new String[0];
            case "PART": return unit ? new String[] {"UNIT", "PREST"} : null;
            case "PREST":
                return token.equals("*") || token.equals("/") ? new String[] {token, "UNIT", "PREST"} : new String[0];
            case "UNIT":
                return token.equals("(") ? new String[] {"(", "E", ")"} : unit ? new String[] {token} : null;
            default:
                return null;
        }
    }

    static final Set<String> SYMBOLS = Set.of("TEXT", "LAW", "E", "EREST", "PART", "PREST", "UNIT");

    /** SYNTAX and ROOM: each token is looked at for both, so that the first by its place is thrown. */
    static void checkForm(List<Token> tokens) throws Fault {
        Deque<String> stack = new ArrayDeque<>();
        stack.push("TEXT");
        Map<String, Integer> many = new HashMap<>();
        int ifs = 0;
        int open = 0;
        for (int i = 0; i < tokens.size(); i++) {
            Token token = tokens.get(i);
            while (SYMBOLS.contains(stack.peek())) {
                String[] by = becomes(stack.pop(), token.kind);
                if (by == null) {
                    throw new Fault(1, token.place);
                }
                for (int j = by.length - 1; j >= 0; j--) {
                    stack.push(by[j]);
                }
            }
            if (!stack.pop().equals(token.kind)) {
                throw new Fault(1, token.place);
            }
            if (token.kind.equals("end")) {
                return;
            }
            many.merge(token.kind, 1, Integer::sum);
            ifs = token.kind.equals(";") ? 0 : token.kind.equals("if") ? ifs + 1 : ifs;
            open += token.kind.equals("(") ? 1 : token.kind.equals(")") ? -1 : 0;
            boolean room = i < 400 && many.getOrDefault("person", 0) <= 5 && many.getOrDefault("doing", 0) <= 6
                    && ifs <= 4 && open <= 6;
            if (!room) {
                throw new Fault(2, token.place);
            }
        }
    }

    static int inRange(Token token, int most) throws Fault {
        int value = Integer.parseInt(token.text);
        if (value > most) {
            throw new Fault(5, token.place);
        }
        return value;
    }

    static Text textOf(byte[] tape) throws Fault {
        List<Token> tokens = tokens(tape);
        checkForm(tokens);
        Text text = new Text();
        List<String> names = new ArrayList<>();
        int at = 0;
        while (!tokens.get(at).kind.equals("end")) {
            int behind = at;
            while (!tokens.get(behind).kind.equals(";")) {
                behind++;
            }
            List<Token> tell = tokens.subList(at, behind);
            tellOne(text, names, tell);
            at = behind + 1;
        }
        return text;
    }

    static void tellOne(Text text, List<String> names, List<Token> tell) throws Fault {
        String kind = tell.get(0).kind;
        if (kind.equals("person") || kind.equals("doing")) {
            if (names.contains(tell.get(1).text)) {
                throw new Fault(3, tell.get(1).place);
            }
            names.add(tell.get(1).text);
        }
        switch (kind) {
            case "person":
                text.people.add(new Person(tell.get(1).text, inRange(tell.get(2), 20), inRange(tell.get(3), 9)));
                break;
            case "doing":
                int whose = -1;
                for (int p = 0; p < text.people.size(); p++) {
                    if (text.people.get(p).name.equals(tell.get(2).text)) {
                        whose = p;
                    }
                }
                if (whose < 0) {
                    throw new Fault(4, tell.get(2).place);
                }
                text.doings.add(new Doing(tell.get(1).text, whose, inRange(tell.get(3), 11), inRange(tell.get(4), 11),
                        inRange(tell.get(5), 20)));
                break;
            case "slips":
                text.slips = inRange(tell.get(1), 100);
                break;
            case "seed":
                text.seed = inRange(tell.get(1), 9999);
                break;
            default:
                List<String> law = new ArrayList<>();
                for (Token t : tell.subList(2, tell.size())) {
                    law.add(t.text);
                }
                text.tellLaw(kind, law);
        }
    }

    // ---- laws, by substitution from left to right over the tokens

    static int ask(Law law, Map<String, Integer> vars) {
        try {
            int[] at = {0};
            List<String> t = law.tokens;
            while (t.get(at[0]).equals("if")) {
                at[0]++;
                int a = sum(law, vars, at);
                at[0]++;
                int b = sum(law, vars, at);
                at[0]++;
                if (a < b) {
                    return sum(law, vars, at);
                }
                while (!t.get(at[0]).equals("else")) {
                    at[0]++;
                }
                at[0]++;
            }
            return sum(law, vars, at);
        } catch (Zero zero) {
            return 0;
        }
    }

    static String tokenAt(Law law, int[] at) {
        return at[0] < law.tokens.size() ? law.tokens.get(at[0]) : "";
    }

    static int sum(Law law, Map<String, Integer> vars, int[] at) throws Zero {
        int value = product(law, vars, at);
        while (tokenAt(law, at).equals("+") || tokenAt(law, at).equals("-")) {
            boolean plus = law.tokens.get(at[0]++).equals("+");
            int next = product(law, vars, at);
            value = plus ? value + next : value - next;
        }
        return value;
    }

    static int product(Law law, Map<String, Integer> vars, int[] at) throws Zero {
        int value = unit(law, vars, at);
        while (tokenAt(law, at).equals("*") || tokenAt(law, at).equals("/")) {
            boolean times = law.tokens.get(at[0]++).equals("*");
            int next = unit(law, vars, at);
            if (!times && next == 0) {
                throw new Zero();
            }
            value = times ? value * next : value / next;
        }
        return value;
    }

    static int unit(Law law, Map<String, Integer> vars, int[] at) throws Zero {
        String token = law.tokens.get(at[0]++);
        if (token.equals("(")) {
            int value = sum(law, vars, at);
            at[0]++;
            return value;
        }
        if (Character.isDigit(token.charAt(0))) {
            return Integer.parseInt(token);
        }
        return law.vars.contains(token) ? vars.getOrDefault(token, 0) : 0;
    }

    Map<String, Integer> seen(Hall hall) {
        Map<String, Integer> vars = new HashMap<>();
        vars.put("sum", hall.total());
        vars.put("most", hall.most());
        vars.put("hour", hall.hour % 24);
        vars.put("taps", hall.taps);
        return vars;
    }

    static int clamp(int v, int most) {
        return Math.max(0, Math.min(most, v));
    }

    int rest(Hall hall) {
        return Math.max(0, ask(text.laws.get("needle"), seen(hall))) % 12;
    }

    int jumps(Hall hall) {
        Map<String, Integer> vars = seen(hall);
        vars.put("mark", rest(hall));
        return clamp(ask(text.laws.get("jumps"), vars), 11);
    }

    int markOf(Hall hall) {
        return (rest(hall) + jumps(hall) * hall.taps) % 12;
    }

    int changesOf(Hall hall, int d, int mark) {
        Doing doing = text.doings.get(d);
        Map<String, Integer> vars = seen(hall);
        vars.put("mood", hall.moods[doing.whose]);
        vars.put("sway", text.people.get(doing.whose).sway);
        vars.put("mark", mark);
        vars.put("much", doing.much);
        vars.put("which", d);
        return clamp(ask(text.laws.get("changes"), vars), 20);
    }

    int driftsOf(Hall hall, int p, int mark) {
        Map<String, Integer> vars = seen(hall);
        vars.put("mood", hall.moods[p]);
        vars.put("sway", text.people.get(p).sway);
        vars.put("mark", mark);
        vars.put("which", p);
        return clamp(ask(text.laws.get("drifts"), vars), 20);
    }

    boolean wouldBeDone(Hall hall, int d, int taken) {
        Doing doing = text.doings.get(d);
        return !hall.forbidden.contains(d) && doing.first <= taken && taken <= doing.last;
    }

    Hall hourAt(Hall hall, int taken) {
        Hall next = hall;
        for (int d = 0; d < text.doings.size(); d++) {
            if (wouldBeDone(hall, d, taken)) {
                next = next.withMood(text.doings.get(d).whose, changesOf(next, d, taken));
            }
        }
        int[] moods = new int[next.moods.length];
        for (int p = 0; p < moods.length; p++) {
            moods[p] = driftsOf(next, p, taken);
        }
        return new Hall(moods, hall.hour + 1, hall.taps, hall.forbidden);
    }

    static long lot(long n, long seed, long which) {
        long mask = 0xffffffffL;
        long h = seed & mask;
        for (long v : new long[] {193, which & mask}) {
            h = ((h ^ v) * 1103515245L + 12345L) & mask;
            h = h ^ h / 32768;
        }
        return h / 2 % n;
    }

    boolean slip(int hour, int seed) {
        return lot(100, seed, 4L * hour) < text.slips;
    }

    Hall hour(Hall hall) {
        return hourAt(hall, markOf(hall));
    }

    Hall behind(Hall hall, int n) {
        for (int i = 0; i < n; i++) {
            hall = hour(hall);
        }
        return hall;
    }

    Hall behindSlips(Hall hall, int n, int seed) {
        for (int i = 0; i < n; i++) {
            int mark = markOf(hall);
            hall = hourAt(hall, slip(hall.hour, seed) ? (mark == 11 ? 0 : mark + 1) : mark);
        }
        return hall;
    }

    // ---- the face

    int feed(int a, int b, int c, int d, int e) {
        if (tape.length > 1980) {
            return -1;
        }
        java.nio.ByteBuffer more = java.nio.ByteBuffer.allocate(tape.length + 20);
        more.put(tape).putInt(a).putInt(b).putInt(c).putInt(d).putInt(e);
        tape = more.array();
        return tape.length;
    }

    int back(int n) {
        if (n < 0 || n > tape.length) {
            return -1;
        }
        tape = Arrays.copyOf(tape, tape.length - n);
        return tape.length;
    }

    int read() {
        byte[] bytes = tape;
        tape = new byte[0];
        try {
            text = textOf(bytes);
        } catch (Fault fault) {
            place = fault.place;
            return fault.number;
        }
        place = -1;
        now = new Hall(text.people.stream().mapToInt(Person::mood).toArray(), 0, 0, Set.of());
        done.clear();
        told.clear();
        Arrays.fill(slots, null);
        return 0;
    }

    int place() {
        return place;
    }

    boolean noPerson(int p) {
        return p < 0 || p >= text.people.size();
    }

    static boolean out(int v, int least, int most) {
        return v < least || v > most;
    }

    int person(int p, int what) {
        if (noPerson(p)) {
            return -1;
        }
        return what == 0 ? now.moods[p] : what == 1 ? text.people.get(p).mood : what == 2 ? text.people.get(p).sway
                : what == 3 ? driftsOf(now, p, markOf(now)) : -1;
    }

    int doing(int d, int what) {
        if (d < 0 || d >= text.doings.size()) {
            return -1;
        }
        Doing it = text.doings.get(d);
        return switch (what) {
            case 0 -> it.whose;
            case 1 -> it.first;
            case 2 -> it.last;
            case 3 -> it.much;
            case 4 -> now.forbidden.contains(d) ? 1 : 0;
            case 5 -> wouldBeDone(now, d, markOf(now)) ? 1 : 0;
            case 6 -> changesOf(now, d, markOf(now));
            default -> -1;
        };
    }

    int mark() {
        return markOf(now);
    }

    private void keep() {
        done.push(now);
        if (done.size() > 40) {
            done.removeLast();
        }
    }

    int tap() {
        if (now.taps == 9) {
            return -1;
        }
        keep();
        now = now.withTaps(now.taps + 1);
        return markOf(now);
    }

    int let() {
        if (now.taps == 0) {
            return -1;
        }
        keep();
        int taps = now.taps;
        now = now.withTaps(0);
        return taps;
    }

    boolean forbid(int d, boolean so) {
        if (d < 0 || d >= text.doings.size() || now.forbidden.contains(d) == so) {
            return false;
        }
        keep();
        now = now.withForbidden(d, so);
        return true;
    }

    boolean cheer(int p, boolean up) {
        if (noPerson(p) || out(now.moods[p] + (up ? 1 : -1), 0, 20)) {
            return false;
        }
        keep();
        now = now.withMood(p, now.moods[p] + (up ? 1 : -1));
        return true;
    }

    int hours(int n) {
        if (out(n, 0, 200)) {
            return -1;
        }
        if (n > 0) {
            keep();
            now = behindSlips(now, n, text.seed);
        }
        return now.hour;
    }

    boolean undo() {
        if (done.isEmpty()) {
            return false;
        }
        now = done.pop();
        return true;
    }

    int comes(int mark) {
        if (out(mark, 0, 11)) {
            return -1;
        }
        Hall hall = now;
        for (int k = 0; k <= 200; k++, hall = hour(hall)) {
            if (markOf(hall) == mark) {
                return k;
            }
        }
        return -2;
    }

    int round(int what) {
        if (out(what, 0, 1)) {
            return -1;
        }
        List<Hall> halls = new ArrayList<>();
        Hall hall = now;
        for (int k = 0; k <= 300; k++, hall = hour(hall)) {
            for (int j = 0; j < k; j++) {
                Hall old = halls.get(j);
                if (Arrays.equals(old.moods, hall.moods) && old.hour % 24 == hall.hour % 24) {
                    return what == 0 ? j : k - j;
                }
            }
            halls.add(hall);
        }
        return -2;
    }

    int settles() {
        Hall hall = now;
        for (int k = 0; k <= 200; k++) {
            Hall next = hour(hall);
            if (Arrays.equals(hall.moods, next.moods)) {
                return k;
            }
            hall = next;
        }
        return -2;
    }

    int itself() {
        int bits = 0;
        for (int v = 0; v < 12; v++) {
            bits += markOf(hourAt(now, v)) == v ? 1 << v : 0;
        }
        return bits;
    }

    int forbids(int mark, int n, int what) {
        if (out(mark, 0, 11) || out(n, 1, 60) || out(what, 0, 1)) {
            return -1;
        }
        for (int few = 0; few <= text.doings.size(); few++) {
            for (int bits = 0; bits < 64; bits++) {
                Hall hall = now;
                boolean can = Integer.bitCount(bits) == few && bits < 1 << text.doings.size();
                for (int d = 0; d < 6; d++) {
                    if ((bits & 1 << d) != 0) {
                        can = can && !now.forbidden.contains(d);
                        hall = hall.withForbidden(d, true);
                    }
                }
                for (int k = 1; can && k <= n; k++) {
                    hall = hour(hall);
                    can = markOf(hall) != mark;
                }
                if (can) {
                    return what == 0 ? few : bits;
                }
            }
        }
        return -2;
    }

    int tapping(int mark, int n) {
        if (out(mark, 0, 11) || out(n, 0, 60)) {
            return -1;
        }
        for (int t = now.taps; t <= 9; t++) {
            if (markOf(behind(now.withTaps(t), n)) == mark) {
                return t - now.taps;
            }
        }
        return -2;
    }

    int often(int mark, int n) {
        if (out(mark, 0, 11) || out(n, 0, 200)) {
            return -1;
        }
        int often = 0;
        Hall hall = now;
        for (int k = 0; k <= n; k++, hall = hour(hall)) {
            often += markOf(hall) == mark ? 1 : 0;
        }
        return often;
    }

    private boolean done(Hall hall, IntPredicate which) {
        for (int d = 0; d < text.doings.size(); d++) {
            if (which.test(d) && wouldBeDone(hall, d, markOf(hall))) {
                return true;
            }
        }
        return false;
    }

    int quiet(int n) {
        if (out(n, 0, 200)) {
            return -1;
        }
        int quiet = 0;
        Hall hall = now;
        for (int k = 0; k < n; k++, hall = hour(hall)) {
            quiet += done(hall, d -> true) ? 0 : 1;
        }
        return quiet;
    }

    int busiest(int n, int what) {
        if (out(n, 0, 200) || out(what, 0, 1)) {
            return -1;
        }
        int best = -2;
        int most = -1;
        for (int d = 0; d < text.doings.size(); d++) {
            int times = 0;
            int doing = d;
            Hall hall = now;
            for (int k = 0; k < n; k++, hall = hour(hall)) {
                times += done(hall, e -> e == doing) ? 1 : 0;
            }
            if (times > most) {
                most = times;
                best = d;
            }
        }
        return best < 0 ? -2 : what == 0 ? best : most;
    }

    int coax(int mark, int n, int what) {
        if (out(mark, 0, 11) || out(n, 0, 60) || out(what, 0, 2)) {
            return -1;
        }
        if (text.people.isEmpty()) {
            return -2;
        }
        if (markOf(behind(now, n)) == mark) {
            return what == 2 ? now.moods[0] : 0;
        }
        int[] best = null;
        for (int p = 0; p < text.people.size(); p++) {
            for (int mood = 0; mood <= 20; mood++) {
                int by = Math.abs(mood - now.moods[p]);
                if ((best == null || by < best[0]) && markOf(behind(now.withMood(p, mood), n)) == mark) {
                    best = new int[] {by, p, mood};
                }
            }
        }
        return best == null ? -2 : best[what];
    }

    int changed(int mark, int n) {
        if (out(mark, 0, 11) || out(n, 0, 60)) {
            return -1;
        }
        for (int p = 0; p < text.people.size(); p++) {
            for (int q = p + 1; q < text.people.size(); q++) {
                Hall hall = now.withMood(p, now.moods[q]).withMood(q, now.moods[p]);
                if (markOf(behind(hall, n)) == mark) {
                    return 10 * p + q;
                }
            }
        }
        return -2;
    }

    int gloomiest(int what) {
        if (out(what, 0, 1)) {
            return -1;
        }
        int least = Arrays.stream(now.moods).min().orElse(-2);
        for (int p = 0; p < now.moods.length; p++) {
            if (now.moods[p] == least) {
                return what == 0 ? p : least;
            }
        }
        return -2;
    }

    int parts(int v, int what) {
        if (out(v, 0, 100) || out(what, 0, 1)) {
            return -1;
        }
        List<Integer> sets = new ArrayList<>();
        for (int bits = 0; bits < 1 << now.moods.length; bits++) {
            int sum = 0;
            for (int p = 0; p < now.moods.length; p++) {
                sum += (bits & 1 << p) != 0 ? now.moods[p] : 0;
            }
            if (sum == v) {
                sets.add(bits);
            }
        }
        return what == 0 ? sets.size() : sets.isEmpty() ? -2 : sets.get(0);
    }

    int pairs(int i) {
        if (i != -1 && noPerson(i)) {
            return -1;
        }
        int n = text.people.size();
        int[] best = null;
        // every row of partners, nobody as n, in their order: the first of the best is the one told
        int rows = 1;
        for (int p = 0; p < n; p++) {
            rows *= n + 1;
        }
        for (int row = 0; row < rows; row++) {
            int[] with = new int[n];
            int left = row;
            for (int p = n - 1; p >= 0; p--) {
                with[p] = left % (n + 1);
                left /= n + 1;
            }
            int pairs = 0;
            int much = 0;
            boolean can = true;
            for (int p = 0; p < n; p++) {
                can = can && (with[p] == n || with[p] != p && with[with[p]] == p);
                pairs += with[p] < n ? 1 : 0;
                much += with[p] < n ? Math.abs(now.moods[p] - now.moods[with[p]]) : 0;
            }
            if (can && (best == null || pairs > best[n] || pairs == best[n] && much < best[n + 1])) {
                best = Arrays.copyOf(with, n + 2);
                best[n] = pairs;
                best[n + 1] = much;
            }
        }
        return i == -1 ? best[n + 1] / 2 : best[i] == n ? -2 : best[i];
    }

    int worth(int p, int n) {
        if (noPerson(p) || out(n, 0, 60)) {
            return -100000;
        }
        return behind(now, n).total() - behind(now.withMood(p, 0), n).total();
    }

    int highest(int n, int what) {
        if (out(n, 0, 60) || out(what, 0, 1)) {
            return -1;
        }
        int most = -1;
        int first = -1;
        for (int k = 0; k <= n; k++) {
            if (behind(now, k).total() > most) {
                most = behind(now, k).total();
                first = k;
            }
        }
        return what == 0 ? most : first;
    }

    int game(int n, int what) {
        if (out(n, 1, 4) || out(what, 0, 1)) {
            return -1;
        }
        int not = aunt(now, n);
        int taps = now.taps < 9 ? aunt(now.withTaps(now.taps + 1), n) : Integer.MIN_VALUE;
        return what == 0 ? Math.max(not, taps) : taps > not ? 1 : 0;
    }

    private int boy(Hall hall, int n) {
        if (n == 0) {
            return hall.total();
        }
        int not = aunt(hall, n);
        return hall.taps == 9 ? not : Math.max(not, aunt(hall.withTaps(hall.taps + 1), n));
    }

    private int aunt(Hall hall, int n) {
        int least = boy(hour(hall), n - 1);
        for (int d = 0; d < text.doings.size(); d++) {
            if (!hall.forbidden.contains(d)) {
                least = Math.min(least, boy(hour(hall.withForbidden(d, true)).withForbidden(d, false), n - 1));
            }
        }
        return least;
    }

    int markIn(int n) {
        return out(n, 0, 200) ? -1 : markOf(behindSlips(now, n, text.seed));
    }

    int moodIn(int p, int n) {
        return noPerson(p) || out(n, 0, 200) ? -1 : behindSlips(now, n, text.seed).moods[p];
    }

    int year(int mark, int n, int s) {
        if (out(mark, 0, 11) || out(n, 0, 200) || out(s, 1, 20)) {
            return -1;
        }
        int many = 0;
        for (int seed = text.seed; seed < text.seed + s; seed++) {
            many += markOf(behindSlips(now, n, seed)) == mark ? 1 : 0;
        }
        return many;
    }

    int tell(int i, int v, boolean so) {
        if (told.size() == 20 || out(i, 0, 24) || out(v, 0, 11)) {
            return -1;
        }
        told.add(new Told(i, v, so));
        return told.size() - 1;
    }

    int forget() {
        int many = told.size();
        told.clear();
        return many;
    }

    private List<Integer> fitting(List<Told> known, int p) {
        List<Integer> moods = new ArrayList<>();
        for (int mood = 0; mood <= 20; mood++) {
            boolean fit = true;
            for (Told t : known) {
                fit = fit && (markOf(behind(now.withMood(p, mood), t.hour)) >= t.mark) == t.so;
            }
            if (fit) {
                moods.add(mood);
            }
        }
        return moods;
    }

    int fits(int k, int p, int what) {
        if (out(k, 0, told.size()) || noPerson(p) || out(what, 0, 1)) {
            return -1;
        }
        List<Integer> moods = fitting(told.subList(0, k), p);
        return what == 0 ? moods.size() : moods.isEmpty() ? -2 : moods.get(0);
    }

    int look(int k, int p, int v) {
        if (out(k, 0, told.size()) || noPerson(p) || out(v, 0, 11)) {
            return -1;
        }
        List<Integer> moods = fitting(told.subList(0, k), p);
        if (moods.isEmpty()) {
            return -2;
        }
        int best = -1;
        int fewest = 99;
        for (int i = 0; i <= 24; i++) {
            int so = 0;
            for (int mood : moods) {
                so += markOf(behind(now.withMood(p, mood), i)) >= v ? 1 : 0;
            }
            int worst = Math.max(so, moods.size() - so);
            if (worst < fewest) {
                fewest = worst;
                best = i;
            }
        }
        return best;
    }

    boolean hold(int slot) {
        if (out(slot, 0, 2)) {
            return false;
        }
        slots[slot] = now;
        return true;
    }

    boolean restore(int slot) {
        if (out(slot, 0, 2) || slots[slot] == null) {
            return false;
        }
        now = slots[slot];
        done.clear();
        return true;
    }

    private int bits(int most, IntPredicate so) {
        int bits = 0;
        for (int i = 0; i < most; i++) {
            bits |= so.test(i) ? 1 << i : 0;
        }
        return bits;
    }

    int count(int what) {
        return switch (what) {
            case 0 -> text.people.size();
            case 1 -> text.doings.size();
            case 2 -> now.hour;
            case 3 -> now.total();
            case 4 -> now.most();
            case 5 -> now.taps;
            case 6 -> bits(text.doings.size(), d -> now.forbidden.contains(d));
            case 7 -> bits(text.doings.size(), d -> wouldBeDone(now, d, markOf(now)));
            case 8 -> tape.length;
            case 9 -> done.size();
            case 10 -> told.size();
            case 11 -> Integer.bitCount(bits(3, s -> slots[s] != null));
            case 12 -> slip(now.hour, text.seed) ? 1 : 0;
            case 13 -> jumps(now);
            case 14 -> now.hour % 24;
            case 15 -> bits(now.moods.length, p -> now.moods[p] == 0);
            case 16 -> bits(now.moods.length, p -> now.moods[p] == 20);
            default -> -1;
        };
    }
}
