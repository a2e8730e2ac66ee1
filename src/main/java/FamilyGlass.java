/**
 * A glass in the hall that tells the household: people with moods, a needle that stands at a mark
 * by all of these, doings that are done when it stands between two marks, laws told as texts.
 * The document is ../shared/DOC.md; its words in capitals are used here in the same sense.
 */
public final class FamilyGlass {
    public static final int NONE = -1;

    /** Told where something is asked for rightly, but there is none. */
    private static final int NOT = -2;
    private static final int NO_WORTH = -100000;

    private static final int MARKS = 12;
    private static final int DAY = 24;
    private static final int TOP_MOOD = 20;
    private static final int TOP_TAPS = 9;
    private static final int MOST_PEOPLE = 5;
    private static final int MOST_DOINGS = 6;
    private static final int MOST_UNDOINGS = 40;
    private static final int MOST_TOLD = 20;
    private static final int SLOTS = 3;

    private static final int FAR_HOURS = 200;
    private static final int NEAR_HOURS = 60;
    private static final int ROUND_HOURS = 300;
    private static final int TOLD_HOURS = 24;
    private static final int GAME_HOURS = 4;
    private static final int MOST_SEEDS = 20;
    private static final int MOST_SUM = 100;
    /** More than all MOODS, added, can be. */
    private static final int OVER_ALL = MOST_SUM + 1;

    private static final int MOST_BYTES = 2000;
    private static final int FEED_BYTES = 20;
    private static final int MOST_TOKENS = 400;
    private static final int MOST_LETTERS = 8;
    private static final int MOST_DIGITS = 4;
    private static final int MOST_IFS = 4;
    private static final int MOST_OPEN = 6;

    private static final int SYNTAX = 1;
    private static final int ROOM = 2;
    private static final int TWICE = 3;
    private static final int NAMELESS = 4;
    private static final int WRONG = 5;

    /** Kinds of TOKENS; a SIGN's kind is its own byte, a word's is FIRST_WORD and its place in WORDS. */
    private static final int END = 1;
    private static final int BAD = 2;
    private static final int NAME = 3;
    private static final int INT = 4;
    private static final int FIRST_WORD = 100;
    private static final int PERSON = 100;
    private static final int DOING = 101;
    private static final int NEEDLE = 102;
    private static final int CHANGES = 103;
    private static final int DRIFTS = 104;
    private static final int JUMPS = 105;
    private static final int SLIPS = 106;
    private static final int SEED = 107;
    private static final int IF = 108;
    private static final int THEN = 109;
    private static final int ELSE = 110;
    private static final int FIRST_VAR = 111;
    private static final int WORD_COUNT = 20;
    private static final String WORDS = "person doing needle changes drifts jumps slips seed if then else sum mood sway mark hour taps which much most";
    private static final String SIGNS = ";=+-*/<()";
    private static final String BLANKS = "\t\n\r ";

    /** VARS by their numbers, in the order of WORDS. */
    private static final int SUM = 0;
    private static final int MOOD = 1;
    private static final int SWAY = 2;
    private static final int MARK = 3;
    private static final int HOUR = 4;
    private static final int TAPS = 5;
    private static final int WHICH = 6;
    private static final int MUCH = 7;
    private static final int MOST = 8;
    private static final int VARS = 9;

    /** Which VARS are told for a LAW, as bits. */
    private static final int FOR_ALL = 1 << SUM | 1 << HOUR | 1 << TAPS | 1 << MOST;
    private static final int FOR_DRIFTS = FOR_ALL | 1 << MOOD | 1 << SWAY | 1 << MARK | 1 << WHICH;
    private static final int FOR_CHANGES = FOR_DRIFTS | 1 << MUCH;
    private static final int FOR_JUMPS = FOR_ALL | 1 << MARK;

    /** Steps of a LAW's code, beside INT and the signs + - * /. */
    private static final int VAR = 5;
    private static final int UNLESS_LESS = 6;
    private static final int ANSWER = 7;

    /** Ahead of each open ( two numbers wait at most, within the innermost three, and one ahead of <. */
    private static final int STACK = 2 * MOST_OPEN + 4;

    private final Tape tape = new Tape();
    private final Reader reader = new Reader();
    private final Course course = new Course();
    private final Book book = new Book();
    private final History history = new History();
    private final Game game = new Game();
    private final Pairing pairing = new Pairing();
    private final State now = new State();
    private final State work = new State();
    private final State before = new State();
    private final State[] slots = new State[SLOTS];
    private final int[] moodCodes = new int[ROUND_HOURS + 1];
    private final int[] times = new int[MOST_DOINGS];
    private final int[] marksSeen = new int[TOLD_HOURS + 1];
    private final int[] leftIfSo = new int[TOLD_HOURS + 1];
    private House house = course.house;
    private int heldSlots = 0;
    private int place = NONE;

    public FamilyGlass() {
        for (int i = 0; i < SLOTS; i++) {
            slots[i] = new State();
        }
    }

    // ---- the tape and the text

    public int feed(int a, int b, int c, int d, int e) {
        if (tape.length + FEED_BYTES > MOST_BYTES) {
            return NONE;
        }
        tape.addFour(a);
        tape.addFour(b);
        tape.addFour(c);
        tape.addFour(d);
        tape.addFour(e);
        return tape.length;
    }

    public int back(int n) {
        if (n < 0 || n > tape.length) {
            return NONE;
        }
        tape.length -= n;
        return tape.length;
    }

    public int read() {
        int fault = reader.readText(tape);
        tape.length = 0;
        if (fault != 0) {
            place = reader.place;
            return fault;
        }
        place = NONE;
        House old = house;
        house = reader.house;
        reader.house = old;
        startAnew();
        return 0;
    }

    private void startAnew() {
        course.house = house;
        now.clearTo(house);
        history.size = 0;
        book.size = 0;
        heldSlots = 0;
    }

    public int place() {
        return place;
    }

    // ---- how it is

    public int person(int person, int what) {
        if (!isPerson(person)) {
            return NONE;
        }
        switch (what) {
            case 0:
                return now.moods[person];
            case 1:
                return house.firstMoods[person];
            case 2:
                return house.sways[person];
            case 3:
                return course.driftsTold(now, person, course.markOf(now));
            default:
                return NONE;
        }
    }

    public int doing(int doing, int what) {
        if (!isDoing(doing)) {
            return NONE;
        }
        switch (what) {
            case 0:
                return house.whose[doing];
            case 1:
                return house.firstMarks[doing];
            case 2:
                return house.lastMarks[doing];
            case 3:
                return house.muches[doing];
            case 4:
                return now.forbidden >> doing & 1;
            case 5:
                return doneNow() >> doing & 1;
            case 6:
                return course.changesTold(now, doing, course.markOf(now));
            default:
                return NONE;
        }
    }

    public int mark() {
        return course.markOf(now);
    }

    public int count(int what) {
        switch (what) {
            case 0:
                return house.people;
            case 1:
                return house.doings;
            case 2:
                return now.hour;
            case 3:
                return now.total();
            case 4:
                return now.greatest();
            case 5:
                return now.taps;
            case 6:
                return now.forbidden;
            case 7:
                return doneNow();
            case 8:
                return tape.length;
            case 9:
                return history.size;
            case 10:
                return book.size;
            case 11:
                return Integer.bitCount(heldSlots);
            case 12:
                return course.isSlip(now.hour, house.seed) ? 1 : 0;
            case 13:
                return course.jumpsOf(now);
            case 14:
                return now.hour % DAY;
            case 15:
                return peopleOfMood(0);
            case 16:
                return peopleOfMood(TOP_MOOD);
            default:
                return NONE;
        }
    }

    private int doneNow() {
        return course.doneAt(now, course.markOf(now));
    }

    private int peopleOfMood(int mood) {
        int bits = 0;
        for (int p = 0; p < house.people; p++) {
            if (now.moods[p] == mood) {
                bits |= 1 << p;
            }
        }
        return bits;
    }

    private boolean isPerson(int person) {
        return person >= 0 && person < house.people;
    }

    private boolean isDoing(int doing) {
        return doing >= 0 && doing < house.doings;
    }

    private static boolean isMark(int mark) {
        return mark >= 0 && mark < MARKS;
    }

    private static boolean within(int v, int least, int most) {
        return v >= least && v <= most;
    }

    // ---- things done by hand

    public int tap() {
        if (now.taps >= TOP_TAPS) {
            return NONE;
        }
        history.keep(now);
        now.taps++;
        return course.markOf(now);
    }

    public int let() {
        int taps = now.taps;
        if (taps == 0) {
            return NONE;
        }
        history.keep(now);
        now.taps = 0;
        return taps;
    }

    public boolean forbid(int doing, boolean forbidden) {
        if (!isDoing(doing) || (now.forbidden >> doing & 1) == (forbidden ? 1 : 0)) {
            return false;
        }
        history.keep(now);
        now.forbidden ^= 1 << doing;
        return true;
    }

    public boolean cheer(int person, boolean up) {
        if (!isPerson(person) || now.moods[person] == (up ? TOP_MOOD : 0)) {
            return false;
        }
        history.keep(now);
        now.moods[person] += up ? 1 : -1;
        return true;
    }

    public int hours(int n) {
        if (!within(n, 0, FAR_HOURS)) {
            return NONE;
        }
        if (n > 0) {
            history.keep(now);
            course.markBehindSlips(now, n, house.seed);
        }
        return now.hour;
    }

    public boolean undo() {
        return history.takeBack(now);
    }

    public boolean hold(int slot) {
        if (!within(slot, 0, SLOTS - 1)) {
            return false;
        }
        slots[slot].takeFrom(now);
        heldSlots |= 1 << slot;
        return true;
    }

    public boolean restore(int slot) {
        if (!within(slot, 0, SLOTS - 1) || (heldSlots >> slot & 1) == 0) {
            return false;
        }
        now.takeFrom(slots[slot]);
        history.size = 0;
        return true;
    }

    // ---- what would be: the hours to come

    public int comes(int mark) {
        if (!isMark(mark)) {
            return NONE;
        }
        work.takeFrom(now);
        for (int behind = 0; behind <= FAR_HOURS; behind++) {
            int at = course.markOf(work);
            if (at == mark) {
                return behind;
            }
            course.passHour(work, at);
        }
        return NOT;
    }

    public int round(int what) {
        if (what != 0 && what != 1) {
            return NONE;
        }
        codeMoods();
        for (int behind = 0; behind < ROUND_HOURS; behind++) {
            // the hour of the day is the same behind whole days only
            for (int more = DAY; behind + more <= ROUND_HOURS; more += DAY) {
                if (moodCodes[behind] == moodCodes[behind + more]) {
                    return what == 0 ? behind : more;
                }
            }
        }
        return NOT;
    }

    private void codeMoods() {
        work.takeFrom(now);
        for (int behind = 0; behind <= ROUND_HOURS; behind++) {
            int code = 0;
            for (int p = 0; p < house.people; p++) {
                code = code * (TOP_MOOD + 1) + work.moods[p];
            }
            moodCodes[behind] = code;
            course.passHour(work, course.markOf(work));
        }
    }

    public int settles() {
        work.takeFrom(now);
        for (int behind = 0; behind <= FAR_HOURS; behind++) {
            before.takeFrom(work);
            course.passHour(work, course.markOf(work));
            if (work.hasMoodsOf(before)) {
                return behind;
            }
        }
        return NOT;
    }

    public int itself() {
        int bits = 0;
        for (int v = 0; v < MARKS; v++) {
            work.takeFrom(now);
            course.passHour(work, v);
            if (course.markOf(work) == v) {
                bits |= 1 << v;
            }
        }
        return bits;
    }

    public int often(int mark, int n) {
        if (!isMark(mark) || !within(n, 0, FAR_HOURS)) {
            return NONE;
        }
        work.takeFrom(now);
        int often = 0;
        for (int behind = 0; behind <= n; behind++) {
            int at = course.markOf(work);
            if (at == mark) {
                often++;
            }
            course.passHour(work, at);
        }
        return often;
    }

    public int quiet(int n) {
        if (!within(n, 0, FAR_HOURS)) {
            return NONE;
        }
        work.takeFrom(now);
        int quiet = 0;
        for (int i = 0; i < n; i++) {
            if (course.passHour(work, course.markOf(work)) == 0) {
                quiet++;
            }
        }
        return quiet;
    }

    public int busiest(int n, int what) {
        if (!within(n, 0, FAR_HOURS) || !within(what, 0, 1)) {
            return NONE;
        }
        if (house.doings == 0) {
            return NOT;
        }
        countDoings(n);
        int busiest = 0;
        for (int d = 1; d < house.doings; d++) {
            if (times[d] > times[busiest]) {
                busiest = d;
            }
        }
        return what == 0 ? busiest : times[busiest];
    }

    private void countDoings(int n) {
        for (int d = 0; d < MOST_DOINGS; d++) {
            times[d] = 0;
        }
        work.takeFrom(now);
        for (int i = 0; i < n; i++) {
            int done = course.passHour(work, course.markOf(work));
            for (int d = 0; d < house.doings; d++) {
                times[d] += done >> d & 1;
            }
        }
    }

    public int highest(int n, int what) {
        if (!within(n, 0, NEAR_HOURS) || !within(what, 0, 1)) {
            return NONE;
        }
        work.takeFrom(now);
        int most = work.total();
        int first = 0;
        for (int behind = 1; behind <= n; behind++) {
            course.passHour(work, course.markOf(work));
            int total = work.total();
            if (total > most) {
                most = total;
                first = behind;
            }
        }
        return what == 0 ? most : first;
    }

    // ---- what would be: something changed now

    public int forbids(int mark, int n, int what) {
        if (!isMark(mark) || !within(n, 1, NEAR_HOURS) || !within(what, 0, 1)) {
            return NONE;
        }
        int fewest = MOST_DOINGS + 1;
        int which = NOT;
        for (int bits = 0; bits < 1 << house.doings; bits++) {
            int few = Integer.bitCount(bits);
            if (few < fewest && (bits & now.forbidden) == 0 && keepsOff(bits, mark, n)) {
                fewest = few;
                which = bits;
            }
        }
        if (which == NOT) {
            return NOT;
        }
        return what == 0 ? fewest : which;
    }

    private boolean keepsOff(int bits, int mark, int n) {
        work.takeFrom(now);
        work.forbidden |= bits;
        int at = course.markOf(work);
        for (int i = 0; i < n; i++) {
            course.passHour(work, at);
            at = course.markOf(work);
            if (at == mark) {
                return false;
            }
        }
        return true;
    }

    public int tapping(int mark, int n) {
        if (!isMark(mark) || !within(n, 0, NEAR_HOURS)) {
            return NONE;
        }
        for (int more = 0; now.taps + more <= TOP_TAPS; more++) {
            work.takeFrom(now);
            work.taps += more;
            if (course.markBehind(work, n) == mark) {
                return more;
            }
        }
        return NOT;
    }

    public int coax(int mark, int n, int what) {
        if (!isMark(mark) || !within(n, 0, NEAR_HOURS) || !within(what, 0, 2)) {
            return NONE;
        }
        if (house.people == 0) {
            return NOT;
        }
        for (int by = 0; by <= TOP_MOOD; by++) {
            for (int p = 0; p < house.people; p++) {
                int mood = coaxed(p, by, mark, n);
                if (mood != NOT) {
                    return what == 0 ? by : what == 1 ? p : mood;
                }
            }
        }
        return NOT;
    }

    /** The MOOD to which a PERSON is to be coaxed, that much less ahead of that much more; NOT. */
    private int coaxed(int person, int by, int mark, int n) {
        int less = now.moods[person] - by;
        if (less >= 0 && comesTo(person, less, mark, n)) {
            return less;
        }
        int more = now.moods[person] + by;
        if (more <= TOP_MOOD && by > 0 && comesTo(person, more, mark, n)) {
            return more;
        }
        return NOT;
    }

    private boolean comesTo(int person, int mood, int mark, int n) {
        work.takeFrom(now);
        work.moods[person] = mood;
        return course.markBehind(work, n) == mark;
    }

    public int changed(int mark, int n) {
        if (!isMark(mark) || !within(n, 0, NEAR_HOURS)) {
            return NONE;
        }
        for (int p = 0; p < house.people; p++) {
            for (int q = p + 1; q < house.people; q++) {
                work.takeFrom(now);
                work.moods[p] = now.moods[q];
                work.moods[q] = now.moods[p];
                if (course.markBehind(work, n) == mark) {
                    return 10 * p + q;
                }
            }
        }
        return NOT;
    }

    public int worth(int person, int n) {
        if (!isPerson(person) || !within(n, 0, NEAR_HOURS)) {
            return NO_WORTH;
        }
        work.takeFrom(now);
        course.markBehind(work, n);
        int with = work.total();
        work.takeFrom(now);
        work.moods[person] = 0;
        course.markBehind(work, n);
        return with - work.total();
    }

    public int game(int n, int what) {
        if (!within(n, 1, GAME_HOURS) || !within(what, 0, 1)) {
            return NONE;
        }
        game.play(course, now, n);
        return what == 0 ? game.much : game.taps;
    }

    // ---- what is: people by their moods

    public int gloomiest(int what) {
        if (!within(what, 0, 1)) {
            return NONE;
        }
        if (house.people == 0) {
            return NOT;
        }
        int who = 0;
        for (int p = 1; p < house.people; p++) {
            if (now.moods[p] < now.moods[who]) {
                who = p;
            }
        }
        return what == 0 ? who : now.moods[who];
    }

    public int parts(int v, int what) {
        if (!within(v, 0, MOST_SUM) || !within(what, 0, 1)) {
            return NONE;
        }
        int many = 0;
        int which = NOT;
        for (int bits = 0; bits < 1 << house.people; bits++) {
            if (totalOf(bits) == v) {
                many++;
                which = which == NOT ? bits : which;
            }
        }
        return what == 0 ? many : which;
    }

    private int totalOf(int bits) {
        int total = 0;
        for (int p = 0; p < house.people; p++) {
            total += (bits >> p & 1) * now.moods[p];
        }
        return total;
    }

    public int pairs(int i) {
        if (i != NONE && !isPerson(i)) {
            return NONE;
        }
        pairing.find(now, house.people);
        return i == NONE ? pairing.least : pairing.partners[i];
    }

    // ---- what would be with SLIPS

    public int markIn(int n) {
        if (!within(n, 0, FAR_HOURS)) {
            return NONE;
        }
        work.takeFrom(now);
        return course.markBehindSlips(work, n, house.seed);
    }

    public int moodIn(int person, int n) {
        if (!isPerson(person) || !within(n, 0, FAR_HOURS)) {
            return NONE;
        }
        work.takeFrom(now);
        course.markBehindSlips(work, n, house.seed);
        return work.moods[person];
    }

    public int year(int mark, int n, int s) {
        if (!isMark(mark) || !within(n, 0, FAR_HOURS) || !within(s, 1, MOST_SEEDS)) {
            return NONE;
        }
        int many = 0;
        for (int i = 0; i < s; i++) {
            work.takeFrom(now);
            if (course.markBehindSlips(work, n, house.seed + i) == mark) {
                many++;
            }
        }
        return many;
    }

    // ---- what is told

    public int tell(int i, int v, boolean so) {
        if (!within(i, 0, TOLD_HOURS) || !isMark(v)) {
            return NONE;
        }
        return book.write(i, v, so);
    }

    public int forget() {
        int many = book.size;
        book.size = 0;
        return many;
    }

    public int fits(int k, int person, int what) {
        if (!within(k, 0, book.size) || !isPerson(person) || !within(what, 0, 1)) {
            return NONE;
        }
        int many = 0;
        int least = NOT;
        for (int mood = 0; mood <= TOP_MOOD; mood++) {
            if (moodFits(k, person, mood)) {
                many++;
                least = least == NOT ? mood : least;
            }
        }
        return what == 0 ? many : least;
    }

    public int look(int k, int person, int v) {
        if (!within(k, 0, book.size) || !isPerson(person) || !isMark(v)) {
            return NONE;
        }
        int left = countLeft(k, person, v);
        if (left == 0) {
            return NOT;
        }
        int best = 0;
        int fewest = left + 1;
        for (int i = 0; i <= TOLD_HOURS; i++) {
            int worst = Math.max(leftIfSo[i], left - leftIfSo[i]);
            if (worst < fewest) {
                fewest = worst;
                best = i;
            }
        }
        return best;
    }

    /** How many MOODS FIT; behind it leftIfSo tells, for each hour, how many of them have v or more then. */
    private int countLeft(int k, int person, int v) {
        for (int i = 0; i <= TOLD_HOURS; i++) {
            leftIfSo[i] = 0;
        }
        int left = 0;
        for (int mood = 0; mood <= TOP_MOOD; mood++) {
            if (moodFits(k, person, mood)) {
                left++;
                for (int i = 0; i <= TOLD_HOURS; i++) {
                    leftIfSo[i] += marksSeen[i] >= v ? 1 : 0;
                }
            }
        }
        return left;
    }

    /** Whether a MOOD FITS; marksSeen tells then the MARKS that there would be by it. */
    private boolean moodFits(int k, int person, int mood) {
        work.takeFrom(now);
        work.moods[person] = mood;
        for (int i = 0; i <= TOLD_HOURS; i++) {
            int at = course.markOf(work);
            marksSeen[i] = at;
            course.passHour(work, at);
        }
        return book.agrees(k, marksSeen);
    }

    /** What goes on: all that hands and HOURS change. MOODS of nobody are 0. */
    private static final class State {
        private final int[] moods = new int[MOST_PEOPLE];
        private int hour;
        private int taps;
        private int forbidden;

        private void takeFrom(State other) {
            for (int p = 0; p < MOST_PEOPLE; p++) {
                moods[p] = other.moods[p];
            }
            hour = other.hour;
            taps = other.taps;
            forbidden = other.forbidden;
        }

        private void clearTo(House house) {
            for (int p = 0; p < MOST_PEOPLE; p++) {
                moods[p] = p < house.people ? house.firstMoods[p] : 0;
            }
            hour = 0;
            taps = 0;
            forbidden = 0;
        }

        private boolean hasMoodsOf(State other) {
            for (int p = 0; p < MOST_PEOPLE; p++) {
                if (moods[p] != other.moods[p]) {
                    return false;
                }
            }
            return true;
        }

        private int total() {
            int total = 0;
            for (int p = 0; p < MOST_PEOPLE; p++) {
                total += moods[p];
            }
            return total;
        }

        private int greatest() {
            int greatest = 0;
            for (int p = 0; p < MOST_PEOPLE; p++) {
                greatest = Math.max(greatest, moods[p]);
            }
            return greatest;
        }
    }

    /** A LAW as steps, each with a number: what it tells is reckoned with a row of waiting numbers. */
    private static final class Law {
        private final int[] steps = new int[MOST_TOKENS];
        private final int[] numbers = new int[MOST_TOKENS];
        private final int vars;
        private int size;

        private Law(int vars) {
            this.vars = vars;
        }

        private void add(int step, int number) {
            if (size < MOST_TOKENS) {
                steps[size] = step;
                numbers[size] = number;
                size++;
            }
        }

        /** A VAR not told for this LAW is 0 in it. */
        private void addVar(int index) {
            if ((vars >> index & 1) == 1) {
                add(VAR, index);
            } else {
                add(INT, 0);
            }
        }

        /** Has the step at a place lead to the last step so far. */
        private void lead(int from) {
            if (from >= 0 && from < size) {
                numbers[from] = size - 1;
            }
        }
    }

    /** What a text tells. */
    private static final class House {
        private final long[] personNames = new long[MOST_PEOPLE];
        private final int[] firstMoods = new int[MOST_PEOPLE];
        private final int[] sways = new int[MOST_PEOPLE];
        private final long[] doingNames = new long[MOST_DOINGS];
        private final int[] whose = new int[MOST_DOINGS];
        private final int[] firstMarks = new int[MOST_DOINGS];
        private final int[] lastMarks = new int[MOST_DOINGS];
        private final int[] muches = new int[MOST_DOINGS];
        private final Law needle = new Law(FOR_ALL);
        private final Law changes = new Law(FOR_CHANGES);
        private final Law drifts = new Law(FOR_DRIFTS);
        private final Law jumps = new Law(FOR_JUMPS);
        private int people;
        private int doings;
        private int slips;
        private int seed;

        private House() {
            clear();
        }

        private void clear() {
            people = 0;
            doings = 0;
            slips = 0;
            seed = 0;
            needle.size = 0;
            needle.addVar(SUM);
            changes.size = 0;
            changes.addVar(MOOD);
            changes.addVar(MUCH);
            changes.add('+', 0);
            drifts.size = 0;
            drifts.addVar(MOOD);
            jumps.size = 0;
            jumps.add(INT, 1);
        }

        private int personNamed(long name) {
            for (int p = 0; p < people; p++) {
                if (personNames[p] == name) {
                    return p;
                }
            }
            return NONE;
        }

        private boolean hasName(long name) {
            for (int d = 0; d < doings; d++) {
                if (doingNames[d] == name) {
                    return true;
                }
            }
            return personNamed(name) != NONE;
        }
    }

    /** The bytes that come ahead of a text. */
    private static final class Tape {
        private final byte[] bytes = new byte[MOST_BYTES];
        private int length;

        private void addFour(int four) {
            for (int shift = 24; shift >= 0; shift -= 8) {
                if (length >= 0 && length < MOST_BYTES) {
                    bytes[length] = (byte) (four >> shift);
                    length++;
                }
            }
        }

        /** A byte, 0 .. 255; NONE where there is none. */
        private int byteAt(int at) {
            return at >= 0 && at < length && at < MOST_BYTES ? bytes[at] & 255 : NONE;
        }

        private boolean isLetterAt(int at) {
            int sign = byteAt(at);
            return sign >= 'a' && sign <= 'z';
        }

        private boolean isDigitAt(int at) {
            int sign = byteAt(at);
            return sign >= '0' && sign <= '9';
        }

        private boolean isOneOfAt(String signs, int at) {
            int sign = byteAt(at);
            return sign != NONE && signs.indexOf((char) sign) >= 0;
        }
    }

    /** The TOKENS of a tape, 401 at most, the last one END or BAD if there is room for it. */
    private static final class Tokens {
        private final long[] words = new long[WORD_COUNT];
        private final int[] kinds = new int[MOST_TOKENS + 1];
        private final long[] values = new long[MOST_TOKENS + 1];
        private final int[] places = new int[MOST_TOKENS + 1];
        private int size;

        private Tokens() {
            int word = 0;
            for (int i = 0; i < WORDS.length(); i++) {
                char letter = WORDS.charAt(i);
                if (letter == ' ') {
                    word++;
                } else if (word < WORD_COUNT) {
                    words[word] = withLetter(words[word], letter);
                }
            }
        }

        /** Words of 8 letters at most have a number each, so that they need no texts. */
        private static long withLetter(long word, int letter) {
            return word * 27 + (letter - 'a' + 1);
        }

        private void scan(Tape tape) {
            size = 0;
            int at = 0;
            boolean more = true;
            for (int i = 0; i <= MOST_TOKENS && more; i++) {
                at = behindBlanks(tape, at);
                at = scanOne(tape, at);
                more = kinds[i] != END && kinds[i] != BAD;
            }
        }

        private static int behindBlanks(Tape tape, int from) {
            int at = from;
            while (at < tape.length && tape.isOneOfAt(BLANKS, at)) {
                at++;
            }
            return at;
        }

        /** Scans what stands at a place; tells the place behind it. */
        private int scanOne(Tape tape, int at) {
            if (at >= tape.length) {
                add(END, 0, at);
                return at;
            }
            if (tape.isLetterAt(at)) {
                return scanWord(tape, at);
            }
            if (tape.isDigitAt(at)) {
                return scanInt(tape, at);
            }
            add(tape.isOneOfAt(SIGNS, at) ? tape.byteAt(at) : BAD, 0, at);
            return at + 1;
        }

        private int scanWord(Tape tape, int from) {
            long word = 0;
            int at = from;
            while (at < tape.length && tape.isLetterAt(at)) {
                word = withLetter(word, tape.byteAt(at));
                at++;
            }
            add(at - from > MOST_LETTERS ? BAD : wordKind(word), word, from);
            return at;
        }

        private int wordKind(long word) {
            for (int i = 0; i < WORD_COUNT; i++) {
                if (words[i] == word) {
                    return FIRST_WORD + i;
                }
            }
            return NAME;
        }

        private int scanInt(Tape tape, int from) {
            long value = 0;
            int at = from;
            while (at < tape.length && tape.isDigitAt(at)) {
                value = value * 10 + (tape.byteAt(at) - '0');
                at++;
            }
            add(at - from > MOST_DIGITS ? BAD : INT, value, from);
            return at;
        }

        private void add(int kind, long value, int at) {
            if (size <= MOST_TOKENS) {
                kinds[size] = kind;
                values[size] = value;
                places[size] = at;
                size++;
            }
        }
    }

    /** Reads a tape into a house of its own; SYNTAX and ROOM end it, of the other FAULTS the first is kept. */
    private static final class Reader {
        private final Tokens tokens = new Tokens();
        private House house = new House();
        private int at;
        private int fault;
        private int place;
        private int laterFault;
        private int laterPlace;

        /** 0, or the FAULT; its byte is told by place then. */
        private int readText(Tape tape) {
            tokens.scan(tape);
            house.clear();
            at = 0;
            fault = 0;
            laterFault = 0;
            for (int i = 0; i <= MOST_TOKENS && fault == 0 && kind() != END; i++) {
                readTell();
            }
            if (fault == 0 && laterFault != 0) {
                fault = laterFault;
                place = laterPlace;
            }
            return fault;
        }

        private void readTell() {
            switch (kind()) {
                case PERSON:
                    readPerson();
                    break;
                case DOING:
                    readDoing();
                    break;
                case NEEDLE:
                    readLaw(house.needle);
                    break;
                case CHANGES:
                    readLaw(house.changes);
                    break;
                case DRIFTS:
                    readLaw(house.drifts);
                    break;
                case JUMPS:
                    readLaw(house.jumps);
                    break;
                case SLIPS:
                    take(SLIPS);
                    house.slips = takeInt(100);
                    take(';');
                    break;
                case SEED:
                    take(SEED);
                    house.seed = takeInt(9999);
                    take(';');
                    break;
                default:
                    fail(SYNTAX);
            }
        }

        private void readPerson() {
            int p = house.people;
            if (p >= MOST_PEOPLE) {
                fail(ROOM);
                return;
            }
            take(PERSON);
            house.personNames[p] = takeNewName();
            house.firstMoods[p] = takeInt(TOP_MOOD);
            house.sways[p] = takeInt(9);
            take(';');
            house.people++;
        }

        private void readDoing() {
            int d = house.doings;
            if (d >= MOST_DOINGS) {
                fail(ROOM);
                return;
            }
            take(DOING);
            house.doingNames[d] = takeNewName();
            house.whose[d] = takePerson();
            house.firstMarks[d] = takeInt(MARKS - 1);
            house.lastMarks[d] = takeInt(MARKS - 1);
            house.muches[d] = takeInt(TOP_MOOD);
            take(';');
            house.doings++;
        }

        private void readLaw(Law law) {
            take(kind());
            take('=');
            law.size = 0;
            for (int ifs = 0; ifs <= MOST_IFS && fault == 0 && kind() == IF; ifs++) {
                if (ifs == MOST_IFS) {
                    fail(ROOM);
                    return;
                }
                take(IF);
                readSum(law, 0);
                take('<');
                readSum(law, 0);
                take(THEN);
                int unless = law.size;
                law.add(UNLESS_LESS, 0);
                readSum(law, 0);
                take(ELSE);
                law.add(ANSWER, 0);
                law.lead(unless);
            }
            readSum(law, 0);
            take(';');
        }

        private void readSum(Law law, int open) {
            readPart(law, open);
            for (int i = 0; i < MOST_TOKENS && fault == 0 && (kind() == '+' || kind() == '-'); i++) {
                int step = kind();
                take(step);
                readPart(law, open);
                law.add(step, 0);
            }
        }

        private void readPart(Law law, int open) {
            readUnit(law, open);
            for (int i = 0; i < MOST_TOKENS && fault == 0 && (kind() == '*' || kind() == '/'); i++) {
                int step = kind();
                take(step);
                readUnit(law, open);
                law.add(step, 0);
            }
        }

        private void readUnit(Law law, int open) {
            if (fault != 0) {
                return;
            }
            int kind = kind();
            if (kind == INT) {
                law.add(INT, (int) value());
                take(INT);
            } else if (kind >= FIRST_VAR && kind < FIRST_VAR + VARS) {
                law.addVar(kind - FIRST_VAR);
                take(kind);
            } else if (kind == '(' && open >= MOST_OPEN) {
                fail(ROOM);
            } else {
                take('(');
                if (fault == 0) {
                    readSum(law, open + 1);
                    take(')');
                }
            }
        }

        private int kind() {
            return at < tokens.size ? tokens.kinds[at] : END;
        }

        private long value() {
            return at < tokens.size ? tokens.values[at] : 0;
        }

        private int start() {
            return at < tokens.size ? tokens.places[at] : 0;
        }

        /** SYNTAX is looked at first: it is the lesser FAULT at one place. */
        private void take(int kind) {
            if (kind() != kind) {
                fail(SYNTAX);
            } else if (at >= MOST_TOKENS) {
                fail(ROOM);
            } else if (fault == 0) {
                at++;
            }
        }

        private long takeNewName() {
            long name = value();
            if (house.hasName(name)) {
                failLater(TWICE);
            }
            take(NAME);
            return name;
        }

        private int takePerson() {
            int person = house.personNamed(value());
            if (person == NONE) {
                failLater(NAMELESS);
            }
            take(NAME);
            return person;
        }

        private int takeInt(int most) {
            int value = (int) value();
            if (value > most) {
                failLater(WRONG);
            }
            take(INT);
            return value;
        }

        private void fail(int what) {
            if (fault == 0) {
                fault = what;
                place = start();
            }
        }

        /** Told only if there is no SYNTAX and no ROOM, so it may be wrong where these come. */
        private void failLater(int what) {
            if (laterFault == 0) {
                laterFault = what;
                laterPlace = start();
            }
        }
    }

    /** What the LAWS tell of a state, and how HOURS change it. */
    private static final class Course {
        private final int[] vars = new int[VARS];
        private final int[] waiting = new int[STACK];
        private final int[] drifted = new int[MOST_PEOPLE];
        private House house = new House();

        /** Sets the VARS that are for all LAWS. */
        private void see(State state) {
            int sum = 0;
            int most = 0;
            for (int p = 0; p < house.people; p++) {
                int mood = state.moods[p];
                sum += mood;
                most = mood > most ? mood : most;
            }
            vars[SUM] = sum;
            vars[MOST] = most;
            vars[HOUR] = state.hour % DAY;
            vars[TAPS] = state.taps;
        }

        /** JUMPS; the state is seen then, and the VAR mark tells the needle's rest. */
        private int jumpsOf(State state) {
            see(state);
            vars[MARK] = Math.max(0, valueOf(house.needle)) % MARKS;
            return held(valueOf(house.jumps), MARKS - 1);
        }

        /** The MARK; the state is seen then. */
        private int markOf(State state) {
            int jumps = jumpsOf(state);
            return (vars[MARK] + jumps * state.taps) % MARKS;
        }

        /** What CHANGES tells of a DOING; the state must be seen ahead. */
        private int changesTold(State state, int doing, int mark) {
            int person = house.whose[doing];
            if (person < 0 || person >= MOST_PEOPLE) {
                return 0;
            }
            vars[MOOD] = state.moods[person];
            vars[SWAY] = house.sways[person];
            vars[MARK] = mark;
            vars[MUCH] = house.muches[doing];
            vars[WHICH] = doing;
            return held(valueOf(house.changes), TOP_MOOD);
        }

        /** What DRIFTS tells of a PERSON; the state must be seen ahead. */
        private int driftsTold(State state, int person, int mark) {
            vars[MOOD] = state.moods[person];
            vars[SWAY] = house.sways[person];
            vars[MARK] = mark;
            vars[WHICH] = person;
            return held(valueOf(house.drifts), TOP_MOOD);
        }

        private static int held(int value, int most) {
            return value < 0 ? 0 : value > most ? most : value;
        }

        /** The DOINGS done where the needle is taken to be at a MARK, as bits. */
        private int doneAt(State state, int taken) {
            int bits = 0;
            for (int d = 0; d < house.doings; d++) {
                if (house.firstMarks[d] <= taken && taken <= house.lastMarks[d]) {
                    bits |= 1 << d;
                }
            }
            return bits & ~state.forbidden;
        }

        /** AN HOUR with the needle taken to be at a MARK; tells the DOINGS done, as bits. */
        private int passHour(State state, int taken) {
            int done = doneAt(state, taken);
            for (int d = 0; d < house.doings; d++) {
                int person = house.whose[d];
                if ((done >> d & 1) == 1 && person >= 0 && person < MOST_PEOPLE) {
                    see(state);
                    state.moods[person] = changesTold(state, d, taken);
                }
            }
            see(state);
            for (int p = 0; p < house.people; p++) {
                drifted[p] = driftsTold(state, p, taken);
            }
            for (int p = 0; p < house.people; p++) {
                state.moods[p] = drifted[p];
            }
            state.hour++;
            return done;
        }

        /** Has n HOURS without SLIPS go by; tells the MARK behind them. */
        private int markBehind(State state, int n) {
            int mark = markOf(state);
            for (int i = 0; i < n; i++) {
                passHour(state, mark);
                mark = markOf(state);
            }
            return mark;
        }

        /** The same with SLIPS by a SEED. */
        private int markBehindSlips(State state, int n, int seed) {
            int mark = markOf(state);
            for (int i = 0; i < n; i++) {
                int taken = isSlip(state.hour, seed) ? (mark + 1) % MARKS : mark;
                passHour(state, taken);
                mark = markOf(state);
            }
            return mark;
        }

        private boolean isSlip(int hour, int seed) {
            return lotOfHundred(seed, 4 * hour) < house.slips;
        }

        private static int lotOfHundred(int seed, int which) {
            int h = stirred(stirred(seed, 193), which);
            return (h >>> 1) % 100;
        }

        private static int stirred(int h, int by) {
            int next = (h ^ by) * 1103515245 + 12345;
            return next ^ next >>> 15;
        }

        /** What a LAW tells by the VARS; 0 if something looked at is divided by 0. */
        private int valueOf(Law law) {
            int top = 0;
            for (int at = 0; at < law.size; at++) {
                int step = law.steps[at];
                int number = law.numbers[at];
                if (step == INT || step == VAR) {
                    if (top >= STACK || number < 0 || step == VAR && number >= VARS) {
                        return 0;
                    }
                    waiting[top] = step == INT ? number : vars[number];
                    top++;
                } else if (step == ANSWER || top < 2) {
                    break;
                } else {
                    top--;
                    int left = waiting[top - 1];
                    int right = waiting[top];
                    if (step == UNLESS_LESS) {
                        top--;
                        // only ever farther on, so that this ends
                        at = left < right ? at : Math.max(at, number);
                    } else if (step == '+') {
                        waiting[top - 1] = left + right;
                    } else if (step == '-') {
                        waiting[top - 1] = left - right;
                    } else if (step == '*') {
                        waiting[top - 1] = left * right;
                    } else if (right == 0) {
                        return 0;
                    } else {
                        waiting[top - 1] = left / right;
                    }
                }
            }
            return top > 0 ? waiting[top - 1] : 0;
        }
    }

    /** How it was ahead of each of the last things done, in a row that comes round. */
    private static final class History {
        private final State[] states = new State[MOST_UNDOINGS];
        private int next;
        private int size;

        private History() {
            for (int i = 0; i < MOST_UNDOINGS; i++) {
                states[i] = new State();
            }
        }

        private void keep(State state) {
            states[next].takeFrom(state);
            next = (next + 1) % MOST_UNDOINGS;
            size = Math.min(size + 1, MOST_UNDOINGS);
        }

        private boolean takeBack(State state) {
            if (size == 0) {
                return false;
            }
            next = (next + MOST_UNDOINGS - 1) % MOST_UNDOINGS;
            size--;
            state.takeFrom(states[next]);
            return true;
        }
    }

    /** What is TOLD. */
    private static final class Book {
        private final int[] toldHours = new int[MOST_TOLD];
        private final int[] toldMarks = new int[MOST_TOLD];
        private final boolean[] toldSo = new boolean[MOST_TOLD];
        private int size;

        private int write(int hour, int mark, boolean so) {
            if (size >= MOST_TOLD) {
                return NONE;
            }
            toldHours[size] = hour;
            toldMarks[size] = mark;
            toldSo[size] = so;
            size++;
            return size - 1;
        }

        /** Whether the first k are so by the MARKS that there would be. */
        private boolean agrees(int k, int[] marks) {
            for (int i = 0; i < k && i < size; i++) {
                int hour = toldHours[i];
                if (hour < marks.length && (marks[hour] >= toldMarks[i]) != toldSo[i]) {
                    return false;
                }
            }
            return true;
        }
    }

    /** A boy and an aunt by turns. A state is kept for each number of HOURS that are left. */
    private static final class Game {
        private final State[] states = new State[GAME_HOURS + 1];
        private int much;
        private int taps;

        private Game() {
            for (int i = 0; i <= GAME_HOURS; i++) {
                states[i] = new State();
            }
        }

        private void play(Course course, State now, int n) {
            if (n < 1 || n > GAME_HOURS) {
                return;
            }
            states[n].takeFrom(now);
            much = auntsLeast(course, n, 0, -1, OVER_ALL);
            taps = 0;
            if (now.taps < TOP_TAPS) {
                int tapped = auntsLeast(course, n, 1, much, OVER_ALL);
                taps = tapped > much ? 1 : 0;
                much = Math.max(much, tapped);
            }
        }

        /**
         * What the boy can have. Below the floor he has more elsewhere, from the ceiling on she has
         * less elsewhere: there it need not be known how much just, only that it is so.
         */
        private int boysMost(Course course, int left, int floor, int ceiling) {
            if (left < 1 || left > GAME_HOURS) {
                return states[0].total();
            }
            int most = auntsLeast(course, left, 0, floor, ceiling);
            if (most < ceiling && states[left].taps < TOP_TAPS) {
                most = Math.max(most, auntsLeast(course, left, 1, Math.max(floor, most), ceiling));
            }
            return most;
        }

        private int auntsLeast(Course course, int left, int taps, int floor, int ceiling) {
            if (left < 1 || left > GAME_HOURS) {
                return 0;
            }
            State from = states[left];
            State next = states[left - 1];
            next.takeFrom(from);
            next.taps += taps;
            int mark = course.markOf(next);
            int done = course.doneAt(next, mark);
            int least = OVER_ALL;
            // NONE: she forbids none; to forbid what would not be done is the same
            for (int d = NONE; d < MOST_DOINGS && least > floor; d++) {
                if (d == NONE || (done >> d & 1) == 1) {
                    next.takeFrom(from);
                    next.taps += taps;
                    next.forbidden |= d == NONE ? 0 : 1 << d;
                    course.passHour(next, mark);
                    next.forbidden = from.forbidden;
                    least = Math.min(least, boysMost(course, left - 1, floor, Math.min(ceiling, least)));
                }
            }
            return least;
        }
    }

    /** Who should live with whom. */
    private static final class Pairing {
        private final int[] trial = new int[MOST_PEOPLE];
        private final int[] partners = new int[MOST_PEOPLE];
        private int people;
        private int least;

        private void find(State now, int people) {
            this.people = people;
            least = OVER_ALL;
            for (int p = 0; p < MOST_PEOPLE; p++) {
                trial[p] = NONE;
                partners[p] = NOT;
            }
            pairFrom(now, 0, people % 2, 0);
        }

        /** Goes through pairs in the order that is wanted, so that of alike ones the first stays. */
        private void pairFrom(State now, int person, int alone, int much) {
            if (person >= people || person >= MOST_PEOPLE) {
                keepIfLess(much);
                return;
            }
            if (trial[person] != NONE) {
                pairFrom(now, person + 1, alone, much);
                return;
            }
            for (int other = person + 1; other < people; other++) {
                if (trial[other] == NONE) {
                    trial[person] = other;
                    trial[other] = person;
                    pairFrom(now, person + 1, alone, much + Math.abs(now.moods[person] - now.moods[other]));
                    trial[other] = NONE;
                    trial[person] = NONE;
                }
            }
            if (alone > 0) {
                trial[person] = NOT;
                pairFrom(now, person + 1, alone - 1, much);
                trial[person] = NONE;
            }
        }

        private void keepIfLess(int much) {
            if (much < least) {
                least = much;
                for (int p = 0; p < MOST_PEOPLE; p++) {
                    partners[p] = trial[p];
                }
            }
        }
    }
}
