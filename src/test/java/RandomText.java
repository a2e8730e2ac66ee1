import java.util.ArrayList;
import java.util.List;
import java.util.Random;

/** Texts by a seed, most of them without a FAULT, some spoiled. */
final class RandomText {
    private final Random random;
    private final List<String> tokens = new ArrayList<>();
    private final List<String> people = new ArrayList<>();

    RandomText(Random random) {
        this.random = random;
    }

    private int upTo(int n) {
        return random.nextInt(n + 1);
    }

    private void add(String... more) {
        tokens.addAll(List.of(more));
    }

    private String number(int most) {
        int v = upTo(most);
        return random.nextInt(9) == 0 && v < 100 ? "0" + v : "" + v;
    }

    private void unit(int open) {
        int kind = random.nextInt(10);
        if (kind < 4) {
            add(PlainGlass.VARS.get(random.nextInt(PlainGlass.VARS.size())));
        } else if (kind < 8 || open == 6) {
            add(number(random.nextInt(6) == 0 ? 9999 : random.nextInt(3) == 0 ? 24 : 5));
        } else {
            add("(");
            expression(open + 1);
            add(")");
        }
    }

    private void part(int open) {
        unit(open);
        for (int i = random.nextInt(3); i > 1; i--) {
            add(random.nextInt(3) == 0 ? "/" : "*");
            unit(open);
        }
    }

    private void expression(int open) {
        part(open);
        for (int i = random.nextInt(4); i > 1; i--) {
            add(random.nextBoolean() ? "+" : "-");
            part(open);
        }
    }

    private void law(String name) {
        add(name, "=");
        for (int i = Math.min(4, random.nextInt(7)); i > 2; i--) {
            add("if");
            expression(0);
            add("<");
            expression(0);
            add("then");
            expression(0);
            add("else");
        }
        if (name.equals("drifts") && random.nextInt(3) > 0) {
            add("mood", random.nextBoolean() ? "+" : "-");
        }
        if (name.equals("changes") && random.nextInt(3) > 0) {
            add("mood", "+");
        }
        if (name.equals("needle") && random.nextInt(3) > 0) {
            add("sum", "+");
        }
        expression(0);
        add(";");
    }

    private void anyLaw() {
        law(List.of("needle", "changes", "drifts", "jumps").get(random.nextInt(4)));
    }

    List<String> tokens() {
        tokens.clear();
        people.clear();
        int persons = Math.min(5, random.nextInt(8));
        int doings = persons == 0 ? 0 : Math.min(6, random.nextInt(9));
        for (int p = 0; p < persons; p++) {
            people.add("p" + (char) ('a' + p));
            add("person", people.get(p), number(20), number(9), ";");
        }
        for (int d = 0; d < doings; d++) {
            if (random.nextInt(8) == 0) {
                anyLaw();
            }
            int first = upTo(11);
            int last = random.nextInt(4) == 0 ? upTo(11) : first + upTo(11 - first);
            add("doing", "d" + (char) ('a' + d), people.get(random.nextInt(persons)), "" + first, "" + last, number(20), ";");
        }
        for (String name : List.of("needle", "changes", "drifts", "jumps")) {
            if (random.nextInt(3) > 0) {
                law(name);
            }
        }
        if (random.nextInt(2) == 0) {
            add("slips", number(100), ";");
        }
        if (random.nextInt(2) == 0) {
            add("seed", number(9999), ";");
        }
        return tokens;
    }

    private String anyToken() {
        switch (random.nextInt(8)) {
            case 0: return "" + upTo(30);
            case 1: return "" + upTo(12000);
            case 2: return ";=+-*/<()".charAt(random.nextInt(9)) + "";
            case 3: return PlainGlass.WORDS.get(random.nextInt(20));
            case 4: return "pa";
            case 5: return "da";
            case 6: return List.of("abcdefgh", "abcdefghi", "12345", "0000", "A", ".", "personx", ">", "\u00e9", "\0").get(random.nextInt(10));
            default: return "px";
        }
    }

    void spoil() {
        for (int times = 1 + random.nextInt(2); times > 0 && !tokens.isEmpty(); times--) {
            int at = random.nextInt(tokens.size());
            switch (random.nextInt(9)) {
                case 0: tokens.remove(at); break;
                case 1: tokens.add(at, anyToken()); break;
                case 2: tokens.add(at, tokens.get(random.nextInt(tokens.size()))); break;
                case 3: tokens.subList(at, tokens.size()).clear(); break;
                case 4: spoilNumber(at); break;
                case 5: case 6: spoilName(at); break;
                default: tokens.set(at, anyToken());
            }
        }
    }

    private void spoilName(int from) {
        for (int at = from; at < tokens.size(); at++) {
            String token = tokens.get(at);
            if (Character.isLetter(token.charAt(0)) && !PlainGlass.WORDS.contains(token)) {
                tokens.set(at, List.of("pa", "pb", "pc", "da", "db", "px").get(random.nextInt(6)));
                return;
            }
        }
    }

    private void spoilNumber(int from) {
        for (int at = from; at < tokens.size(); at++) {
            if (Character.isDigit(tokens.get(at).charAt(0))) {
                tokens.set(at, "" + List.of(9, 10, 11, 12, 20, 21, 100, 101, 9999).get(random.nextInt(9)));
                return;
            }
        }
    }

    /** More of all than there is room for: people, doings, ifs, ( and tokens. */
    void crowd() {
        switch (random.nextInt(5)) {
            case 0:
                for (int i = random.nextInt(7); i > 0; i--) {
                    tokens.addAll(0, List.of("person", "q" + (char) ('a' + i), number(20), number(9), ";"));
                }
                break;
            case 1:
                for (int i = random.nextInt(8); i > 0 && !people.isEmpty(); i--) {
                    add("doing", "e" + (char) ('a' + i), people.get(0), number(11), number(11), number(20), ";");
                }
                break;
            case 2:
                add("drifts", "=");
                for (int i = 3 + random.nextInt(3); i > 0; i--) {
                    add("if", "mood", "<", "3", "then", "4", "else");
                }
                add("5", ";");
                break;
            case 3:
                add("needle", "=", "if", "0", "<");
                int open = 5 + random.nextInt(3);
                for (int i = 0; i < open; i++) {
                    add("1", "+", "sum", "*", "(");
                }
                add("1", "+", "1", "*", "2");
                for (int i = 0; i < open; i++) {
                    add(")");
                }
                add("then", "3", "else", "4", ";");
                break;
            default:
                int size = 395 + random.nextInt(8);
                while (tokens.size() + 8 < size) {
                    add("slips", number(100), ";");
                }
                add("jumps", "=", "0");
                while (tokens.size() + 2 < size) {
                    add("+", "1");
                }
                add(";");
        }
    }

    /** The tokens with blanks where they must be and here and there. */
    String text() {
        StringBuilder text = new StringBuilder();
        String blanks = " \t\n\r";
        boolean wordy = false;
        for (String token : tokens) {
            boolean word = Character.isLetterOrDigit(token.charAt(0));
            boolean needs = wordy && word;
            for (int i = random.nextInt(3) == 0 ? random.nextInt(3) : 0; i > 0 || needs; i--) {
                text.append(blanks.charAt(random.nextInt(6) < 5 ? 0 : random.nextInt(4)));
                needs = false;
            }
            text.append(token);
            wordy = word;
        }
        if (random.nextInt(4) == 0) {
            text.append(" ");
        }
        return text.length() <= 2000 ? text.toString() : text.substring(0, 2000);
    }
}
