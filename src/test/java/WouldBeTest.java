/** Promises 15 to 38: what would be, and what is TOLD, reckoned by hand. */
public final class WouldBeTest {
    private static final Due DUE = new Due();
    /**
     * MARKS by the hours: 2 6 7 8 9 10 11 0 1 2 6 6 ..; ann 4 7 .. 7 10, bob 10 11 .. 19 20, cat 0:
     * sing is done at first and at the second 2, row always, nap never.
     */
    private static final String HOUSE = "person ann 4 2; person bob 10 5; person cat 0 0;"
            + "doing sing ann 2 5 3; doing row bob 0 11 1; doing nap cat 6 3 9;";
    private static final int LEAST = Integer.MIN_VALUE;
    private static final int GREATEST = Integer.MAX_VALUE;

    public static void main(String[] args) {
        promise15();
        promise16();
        promise17();
        promise18();
        promise19();
        promise20();
        promise21();
        promise22();
        promise23();
        promise24();
        promise25();
        promise26();
        promise27();
        promise28();
        promise29();
        promise30();
        promise31();
        promise32and33();
        promise34();
        promise35and36();
        promise37();
        promise38();
        nothingHappens();
        DUE.end();
    }

    /** A mood that is the days gone by: with the hour of the day it counts HOURS up to 504. */
    private static FamilyGlass counting(String needle) {
        return DUE.glass("person a 0 0; drifts = mood + hour / 23; needle = " + needle + ";");
    }

    private static void promise15() {
        DUE.about("promise 15");
        int[] comes = {7, 8, 0, -2, -2, -2, 1, 2, 3, 4, 5, 6};
        for (String slips : new String[] {"", "slips 100;"}) {
            FamilyGlass x = DUE.glass(HOUSE + slips);
            for (int mark = 0; mark < 12; mark++) {
                DUE.is("comes " + mark, x.comes(mark), comes[mark]);
            }
            DUE.is("comes 12", x.comes(12), -1);
            DUE.is("comes -1", x.comes(-1), -1);
            DUE.is("comes far", x.comes(GREATEST), -1);
            DUE.is("comes far", x.comes(LEAST), -1);
        }
        FamilyGlass x = counting("if 24 * sum + hour < 200 then 0 else 1");
        DUE.is("behind 200", x.comes(1), 200);
        x = counting("if 24 * sum + hour < 201 then 0 else 1");
        DUE.is("behind 201", x.comes(1), -2);
        x.hours(5);
        DUE.is("behind 196 more", x.comes(1), 196);
    }

    private static void isRound(String text, int behind, int more) {
        FamilyGlass x = DUE.glass(text);
        DUE.is("round 0 of " + text, x.round(0), behind);
        DUE.is("round 1 of " + text, x.round(1), more);
    }

    private static void promise16() {
        DUE.about("promise 16");
        isRound(HOUSE, 10, 24);
        isRound(HOUSE + "slips 100;", 10, 24);
        isRound("", 0, 24);
        isRound("person a 3 0; drifts = if mood < 4 then mood + 1 else 0;", 0, 120);
        isRound("person a 9 0; drifts = if mood < 4 then mood + 1 else 0;", 1, 120);
        isRound("person a 3 0; drifts = if mood < 10 then mood + 1 else 0;", 0, 264);
        isRound("person a 3 0; drifts = if mood < 12 then mood + 1 else 0;", -2, -2);
        isRound("person a 0 0; drifts = if mood < 1 then 1 else if hour < 23 then 1 else 2;", 1, 24);
        String twoSteps = "person a 0 0; person b 0 0; drifts = if which < 1 then mood + hour / 23 * (1 - mood / 11)"
                + " else if 24 * (sum - mood) + hour < LAST then mood else 1;";
        isRound(twoSteps.replace("LAST", "275"), 276, 24);
        isRound(twoSteps.replace("LAST", "276"), -2, -2);
        String once = " drifts = if hour < 23 then mood else if which < 1 then 1 else 0;";
        isRound("person a 0 0; person b 19 0;" + once, 24, 24);
        isRound("person a 0 0; person b 20 0;" + once, 24, 24);
        isRound("person a 0 0; person b 18 0;" + once, 24, 24);
        FamilyGlass x = DUE.glass(HOUSE);
        DUE.is("round 2", x.round(2), -1);
        DUE.is("round -1", x.round(-1), -1);
    }

    private static void promise17() {
        DUE.about("promise 17");
        DUE.is("settles", DUE.glass(HOUSE).settles(), 10);
        DUE.is("settles", DUE.glass(HOUSE + "slips 100;").settles(), 10);
        DUE.is("settles", new FamilyGlass().settles(), 0);
        DUE.is("settles", DUE.glass("person a 5 0; drifts = 5 - mood;").settles(), -2);
        DUE.is("settles, one done and undone", DUE.glass("person a 5 0; doing d a 0 11 2; drifts = mood - 2;").settles(), 0);
        String blinks = "person a 0 0; person b 0 0; drifts = if which < 1 then mood + hour / 23"
                + " else if 24 * (sum - mood) + hour < LAST then 1 - mood else mood;";
        DUE.is("settles behind 200", DUE.glass(blinks.replace("LAST", "200")).settles(), 200);
        DUE.is("settles behind 201", DUE.glass(blinks.replace("LAST", "201")).settles(), -2);
    }

    private static void promise18() {
        DUE.about("promise 18");
        FamilyGlass x = DUE.glass("person a 0 0; doing d a 3 3 3; doing e a 7 7 7; doing f a 5 5 6; slips 100;");
        DUE.is("itself", x.itself(), 1 + 8 + 128);
        x.forbid(1, true);
        DUE.is("itself", x.itself(), 1 + 8);
        x.tap();
        DUE.is("itself", x.itself(), 2);
        DUE.is("itself by hour 1", DUE.glass("needle = hour;").itself(), 2);
        DUE.is("itself: 0", DUE.glass(HOUSE).itself(), 0);
        DUE.is("itself: the DRIFTS by v", DUE.glass("person a 5 0; drifts = mark;").itself(), 4095);
    }

    private static void promise19() {
        DUE.about("promise 19");
        FamilyGlass x = DUE.glass(HOUSE + "slips 100;");
        DUE.is("few", x.forbids(6, 1, 0), 1);
        DUE.is("least bits", x.forbids(6, 1, 1), 1);
        DUE.is("few", x.forbids(6, 4, 0), 1);
        DUE.is("which", x.forbids(6, 4, 1), 2);
        DUE.is("none", x.forbids(3, 60, 0), 0);
        DUE.is("none", x.forbids(3, 60, 1), 0);
        DUE.is("not by all, yet by none", x.forbids(2, 1, 0), 0);
        DUE.is("no such n", x.forbids(6, 0, 0), -1);
        DUE.is("no such n", x.forbids(6, 61, 0), -1);
        DUE.is("no such n", x.forbids(6, LEAST, 1), -1);
        DUE.is("no such mark", x.forbids(12, 1, 0), -1);
        DUE.is("no such mark", x.forbids(-1, 1, 0), -1);
        DUE.is("no such what", x.forbids(6, 1, 2), -1);
        DUE.is("no such what", x.forbids(6, 1, -1), -1);
        x.forbid(1, true);
        DUE.is("beside row", x.forbids(5, 60, 0), 1);
        DUE.is("beside row", x.forbids(5, 60, 1), 1);
        x.forbid(0, true);
        DUE.is("2 for ever", x.forbids(2, 1, 0), -2);
        DUE.is("2 for ever", x.forbids(2, 1, 1), -2);
        x = DUE.glass("person a 0 0; doing d a 0 0 3; doing e a 0 0 3; doing f a 0 0 5; needle = if sum < 1 then 0 else 1;");
        DUE.is("three", x.forbids(1, 1, 0), 3);
        DUE.is("three", x.forbids(1, 1, 1), 7);
        x.forbid(1, true);
        DUE.is("two more", x.forbids(1, 60, 0), 2);
        DUE.is("two more", x.forbids(1, 60, 1), 5);
        x = DUE.glass("person a 0 0; doing d a 0 0 3; doing e a 0 0 3; doing f a 0 0 5; doing g a 0 0 1; doing h a 0 0 1;"
                + "doing i a 0 0 1; needle = if sum < 1 then 0 else 1;");
        DUE.is("all six", x.forbids(1, 1, 0), 6);
        DUE.is("all six", x.forbids(1, 1, 1), 63);
        DUE.is("not ahead of the first HOUR", DUE.glass("needle = if hour < 1 then 4 else 5;").forbids(4, 23, 0), 0);
        DUE.is("behind the last HOUR", DUE.glass("needle = if hour < 1 then 4 else 5;").forbids(4, 24, 0), -2);
    }

    private static void promise20() {
        DUE.about("promise 20");
        FamilyGlass x = DUE.glass(HOUSE + "slips 100;");
        DUE.is("none", x.tapping(2, 0), 0);
        DUE.is("three", x.tapping(5, 0), 3);
        DUE.is("nine", x.tapping(11, 0), 9);
        DUE.is("ten", x.tapping(0, 0), -2);
        DUE.is("one", x.tapping(7, 1), 1);
        DUE.is("far", x.tapping(6, 60), 0);
        x.tap();
        x.tap();
        DUE.is("one more", x.tapping(5, 0), 1);
        DUE.is("seven more", x.tapping(11, 0), 7);
        DUE.is("back", x.tapping(3, 0), -2);
        DUE.is("no such mark", x.tapping(12, 0), -1);
        DUE.is("no such mark", x.tapping(-1, 0), -1);
        DUE.is("no such n", x.tapping(0, 61), -1);
        DUE.is("no such n", x.tapping(0, -1), -1);
    }

    private static void promise21() {
        DUE.about("promise 21");
        FamilyGlass x = DUE.glass(HOUSE + "slips 100;");
        DUE.is("often", x.often(6, 12), 4);
        DUE.is("often", x.often(2, 200), 2);
        DUE.is("often", x.often(6, 200), 192);
        DUE.is("often", x.often(2, 0), 1);
        DUE.is("often", x.often(3, 200), 0);
        DUE.is("no such n", x.often(2, 201), -1);
        DUE.is("no such n", x.often(2, -1), -1);
        DUE.is("no such mark", x.often(12, 1), -1);
        DUE.is("no such mark", x.often(-1, 1), -1);
    }

    private static void promise22() {
        DUE.about("promise 22");
        FamilyGlass x = DUE.glass("person a 9 0; doing d a 9 11 1; doing e a 11 0 1; slips 100;");
        DUE.is("quiet", x.quiet(0), 0);
        DUE.is("quiet", x.quiet(3), 0);
        DUE.is("quiet", x.quiet(4), 1);
        DUE.is("quiet", x.quiet(200), 197);
        x.forbid(0, true);
        DUE.is("quiet", x.quiet(5), 5);
        DUE.is("no such n", x.quiet(201), -1);
        DUE.is("no such n", x.quiet(-1), -1);
    }

    private static void promise23() {
        DUE.about("promise 23");
        FamilyGlass x = DUE.glass(HOUSE + "slips 100;");
        DUE.is("which", x.busiest(9, 0), 1);
        DUE.is("how many", x.busiest(9, 1), 9);
        DUE.is("alike", x.busiest(1, 0), 0);
        DUE.is("alike", x.busiest(1, 1), 1);
        DUE.is("no HOURS", x.busiest(0, 0), 0);
        DUE.is("no HOURS", x.busiest(0, 1), 0);
        DUE.is("far", x.busiest(200, 1), 200);
        x.forbid(1, true);
        DUE.is("which", x.busiest(9, 0), 0);
        DUE.is("how many", x.busiest(9, 1), 2);
        DUE.is("no such n", x.busiest(201, 0), -1);
        DUE.is("no such n", x.busiest(-1, 1), -1);
        DUE.is("no such what", x.busiest(1, 2), -1);
        x = DUE.glass("person a 3 3;");
        DUE.is("no DOINGS", x.busiest(5, 0), -2);
        DUE.is("no DOINGS", x.busiest(5, 1), -2);
        DUE.is("no DOINGS, no such n", x.busiest(201, 0), -1);
        DUE.is("no DOINGS, no such what", x.busiest(5, -1), -1);
    }

    private static void isCoax(FamilyGlass x, int mark, int n, int by, int whose, int mood) {
        DUE.is("coax " + mark + " " + n + ": by", x.coax(mark, n, 0), by);
        DUE.is("coax " + mark + " " + n + ": whose", x.coax(mark, n, 1), whose);
        DUE.is("coax " + mark + " " + n + ": mood", x.coax(mark, n, 2), mood);
    }

    private static void promise24() {
        DUE.about("promise 24");
        FamilyGlass x = DUE.glass(HOUSE + "slips 100;");
        isCoax(x, 2, 0, 0, 0, 4);
        isCoax(x, 3, 0, 1, 0, 5);
        isCoax(x, 1, 0, 1, 0, 3);
        isCoax(x, 0, 0, 2, 0, 2);
        isCoax(x, 8, 0, 6, 0, 10);
        isCoax(x, 9, 0, 5, 1, 5);
        isCoax(x, 6, 1, 0, 0, 4);
        isCoax(x, 7, 1, 1, 0, 5);
        isCoax(x, 2, 1, 1, 0, 3);
        DUE.is("no such mark", x.coax(12, 0, 0), -1);
        DUE.is("no such mark", x.coax(-1, 0, 0), -1);
        DUE.is("no such n", x.coax(0, 61, 0), -1);
        DUE.is("no such n", x.coax(0, -1, 0), -1);
        DUE.is("no such what", x.coax(0, 0, 3), -1);
        DUE.is("no such what", x.coax(0, 0, -1), -1);
        // as well less as more: less
        x = DUE.glass("person a 4 2; person b 10 5; needle = (sum - 14) * (sum - 14);");
        isCoax(x, 4, 0, 2, 0, 2);
        isCoax(x, 9, 0, 3, 0, 1);
        isCoax(x, 1, 0, 1, 0, 3);
        // only 0 .. 20
        isCoax(DUE.glass("person a 20 0;"), 9, 0, 11, 0, 9);
        isCoax(DUE.glass("person a 0 0;"), 9, 0, 9, 0, 9);
        isCoax(DUE.glass("person a 0 0; needle = sum / 20;"), 1, 0, 20, 0, 20);
        isCoax(DUE.glass("person a 0 0; needle = sum / 21;"), 1, 0, -2, -2, -2);
        isCoax(DUE.glass("person a 0 0; person b 3 0; needle = most / 20;"), 1, 0, 17, 1, 20);
        isCoax(new FamilyGlass(), 0, 0, -2, -2, -2);
        DUE.is("no PEOPLE, no such mark", new FamilyGlass().coax(12, 0, 0), -1);
    }

    private static void promise25() {
        DUE.about("promise 25");
        FamilyGlass x = DUE.glass("person ann 4 2; person bob 10 5; person cat 1 0; drifts = if which < 1 then mood else 0;"
                + "slips 100;");
        DUE.is("changed", x.changed(10, 1), 1);
        DUE.is("changed", x.changed(1, 1), 2);
        DUE.is("changed", x.changed(4, 60), 12);
        DUE.is("changed", x.changed(5, 1), -2);
        DUE.is("changed", x.changed(3, 0), 1);
        DUE.is("no such mark", x.changed(12, 0), -1);
        DUE.is("no such mark", x.changed(-1, 0), -1);
        DUE.is("no such n", x.changed(3, 61), -1);
        DUE.is("no such n", x.changed(3, -1), -1);
        DUE.is("one alone", DUE.glass("person a 3 0;").changed(3, 0), -2);
        x = DUE.glass("person a 1 0; person b 2 0; person c 3 0; person d 4 0; person e 5 0;"
                + "drifts = if which < 4 then 0 else mood;");
        DUE.is("first two", x.changed(5, 1), 1);
        DUE.is("first two", x.changed(3, 1), 24);
        DUE.is("first two", x.changed(4, 1), 34);
    }

    private static void promise26() {
        DUE.about("promise 26");
        FamilyGlass x = DUE.glass("person a 7 0; person b 3 0; person c 3 0;");
        DUE.is("who", x.gloomiest(0), 1);
        DUE.is("how much", x.gloomiest(1), 3);
        x.cheer(2, false);
        DUE.is("who", x.gloomiest(0), 2);
        DUE.is("how much", x.gloomiest(1), 2);
        DUE.is("no such what", x.gloomiest(2), -1);
        DUE.is("no such what", x.gloomiest(-1), -1);
        x = new FamilyGlass();
        DUE.is("nobody", x.gloomiest(0), -2);
        DUE.is("nobody", x.gloomiest(1), -2);
        DUE.is("nobody, no such what", x.gloomiest(2), -1);
    }

    private static void isParts(FamilyGlass x, int v, int many, int which) {
        DUE.is("parts " + v + ": many", x.parts(v, 0), many);
        DUE.is("parts " + v + ": which", x.parts(v, 1), which);
    }

    private static void promise27() {
        DUE.about("promise 27");
        FamilyGlass x = DUE.glass(HOUSE);
        isParts(x, 4, 2, 1);
        isParts(x, 0, 2, 0);
        isParts(x, 14, 2, 3);
        isParts(x, 10, 2, 2);
        isParts(x, 5, 0, -2);
        isParts(x, 101, -1, -1);
        isParts(x, -1, -1, -1);
        DUE.is("no such what", x.parts(4, 2), -1);
        DUE.is("no such what", x.parts(5, -1), -1);
        isParts(DUE.glass("person a 3 0; person b 2 0; person c 5 0;"), 5, 2, 3);
        x = DUE.glass("person a 20 0; person b 20 0; person c 20 0; person d 20 0; person e 20 0;");
        isParts(x, 100, 1, 31);
        isParts(x, 40, 10, 3);
    }

    private static void isPairs(String text, int... due) {
        FamilyGlass x = DUE.glass(text);
        for (int i = -1; i < due.length - 1; i++) {
            DUE.is("pairs " + i + " of " + text, x.pairs(i), due[i + 1]);
        }
        DUE.is("nobody", x.pairs(due.length - 1), -1);
        DUE.is("nobody", x.pairs(-2), -1);
        DUE.is("nobody", x.pairs(LEAST), -1);
    }

    private static String moods(int... moods) {
        StringBuilder text = new StringBuilder();
        for (int p = 0; p < moods.length; p++) {
            text.append("person ").append((char) ('a' + p)).append(' ').append(moods[p]).append(" 0;");
        }
        return text.toString();
    }

    private static void promise28() {
        DUE.about("promise 28");
        isPairs(HOUSE, 4, 2, -2, 0);
        isPairs(moods(), 0);
        isPairs(moods(7), 0, -2);
        isPairs(moods(7, 20), 13, 1, 0);
        isPairs(moods(0, 10, 11, 1), 2, 3, 2, 1, 0);
        isPairs(moods(6, 6, 6, 6), 0, 1, 0, 3, 2);
        isPairs(moods(6, 6, 6, 6, 6), 0, 1, 0, 3, 2, -2);
        isPairs(moods(1, 3, 5), 2, 1, 0, -2);
        isPairs(moods(1, 5, 5), 0, -2, 2, 1);
        isPairs(moods(0, 2, 4, 2), 4, 1, 0, 3, 2);
        isPairs(moods(20, 0, 1, 19, 0), 1, 3, 4, -2, 0, 1);
        isPairs(moods(5, 0, 20, 20, 0), 0, -2, 4, 3, 2, 1);
    }

    private static void promise29() {
        DUE.about("promise 29");
        FamilyGlass x = DUE.glass(HOUSE + "slips 100;");
        DUE.is("worth", x.worth(0, 0), 4);
        DUE.is("worth", x.worth(1, 1), 10);
        DUE.is("worth", x.worth(2, 60), 0);
        DUE.is("nobody", x.worth(3, 1), -100000);
        DUE.is("nobody", x.worth(-1, 1), -100000);
        DUE.is("no such n", x.worth(0, 61), -100000);
        DUE.is("no such n", x.worth(0, -1), -100000);
        DUE.is("below 0", DUE.glass("person a 5 0; drifts = 5 - mood;").worth(0, 1), -5);
    }

    private static void promise30() {
        DUE.about("promise 30");
        FamilyGlass x = DUE.glass(HOUSE + "slips 100;");
        DUE.is("how much", x.highest(60, 0), 30);
        DUE.is("first", x.highest(60, 1), 10);
        DUE.is("how much", x.highest(8, 0), 25);
        DUE.is("first", x.highest(8, 1), 8);
        DUE.is("how much", x.highest(0, 0), 14);
        DUE.is("first", x.highest(0, 1), 0);
        DUE.is("no such n", x.highest(61, 0), -1);
        DUE.is("no such n", x.highest(-1, 0), -1);
        DUE.is("no such what", x.highest(1, 2), -1);
        DUE.is("no such what", x.highest(1, -1), -1);
        x = DUE.glass("person a 5 0; drifts = mood - 1;");
        DUE.is("how much", x.highest(5, 0), 5);
        DUE.is("first", x.highest(5, 1), 0);
    }

    private static void isGame(FamilyGlass x, int n, int much, int taps) {
        DUE.is("game " + n + ": how much", x.game(n, 0), much);
        DUE.is("game " + n + ": taps", x.game(n, 1), taps);
    }

    private static void promise31() {
        DUE.about("promise 31");
        isGame(DUE.glass(HOUSE + "slips 100;"), 1, 15, 0);
        FamilyGlass x = DUE.glass("person a 2 0; doing clap a 3 3 5; doing sing a 3 3 4;");
        isGame(x, 1, 6, 1);
        x.forbid(0, true);
        isGame(x, 1, 2, 0);
        x = DUE.glass("person a 2 0; doing clap a 0 0 5; doing sing a 0 0 4;");
        for (int i = 0; i < 9; i++) {
            x.tap();
        }
        isGame(x, 1, 2, 0);
        x.let();
        // for that HOUR alone
        x = DUE.glass("person a 0 0; doing d a 0 11 3; doing e a 0 11 1; jumps = 0;");
        for (int n = 1; n <= 4; n++) {
            isGame(x, n, n, 0);
        }
        // none forbidden, though six can be
        StringBuilder six = new StringBuilder("person a 20 0; changes = mood - much;");
        for (char name = 'b'; name < 'h'; name++) {
            six.append("doing ").append(name).append(" a 0 11 1;");
        }
        isGame(DUE.glass(six.toString()), 1, 14, 0);
        isGame(DUE.glass(six.toString()), 2, 8, 0);
        // 9 taps at most, in the later HOURS too
        x = DUE.glass("person a 0 0; doing d a 10 10 5; doing e a 10 10 5;");
        for (int i = 0; i < 8; i++) {
            x.tap();
        }
        isGame(x, 2, 0, 0);
        isGame(x, 3, 0, 0);
        // taps stay for the later HOURS
        x = DUE.glass("person a 0 0; doing d a 2 2 5; doing e a 2 2 5;");
        isGame(x, 1, 0, 0);
        isGame(x, 2, 5, 1);
        x = DUE.glass("person a 5 0; drifts = mood + taps;");
        isGame(x, 4, 5 + 1 + 2 + 3 + 4, 1);
        isGame(x, 0, -1, -1);
        isGame(x, 5, -1, -1);
        isGame(x, LEAST, -1, -1);
        DUE.is("no such what", x.game(1, 2), -1);
        DUE.is("no such what", x.game(1, -1), -1);
    }

    private static void promise32and33() {
        DUE.about("promises 32, 33");
        // SLIPS in the hours 1, 2, 3 and 5
        FamilyGlass x = DUE.glass("person b 0 0; person a 3 0; doing d a 4 4 2; slips 33; needle = 3 + hour / 6;");
        int[] moods = {3, 3, 5, 7, 9, 9, 11};
        for (int n = 0; n < moods.length; n++) {
            DUE.is("moodIn " + n, x.moodIn(1, n), moods[n]);
            DUE.is("markIn " + n, x.markIn(n), n < 6 ? 3 : 4);
        }
        x.hours(2);
        DUE.is("moodIn by the hour counted on", x.moodIn(1, 1), 7);
        DUE.is("moodIn", x.moodIn(1, 0), 5);
        DUE.is("no such n", x.moodIn(1, 201), -1);
        DUE.is("no such n", x.moodIn(1, -1), -1);
        DUE.is("nobody", x.moodIn(2, 1), -1);
        DUE.is("nobody", x.moodIn(-1, 1), -1);
        DUE.is("no such n", x.markIn(201), -1);
        DUE.is("no such n", x.markIn(-1), -1);
        x = DUE.glass("person a 3 0; doing d a 4 4 2; slips 33;");
        DUE.is("markIn", x.markIn(1), 3);
        DUE.is("markIn", x.markIn(2), 5);
        DUE.is("markIn", x.markIn(200), 5);
    }

    private static void promise34() {
        DUE.about("promise 34");
        // LOT 100 at hour 0 of the SEEDS 0, 1 ..: 88 34 25 35 66 66 55 29 17 67 16 5 35 83 69 56 51 85 64 82
        String text = "person a 0 0; doing d a 1 1 3; slips 50;";
        FamilyGlass x = DUE.glass(text);
        DUE.is("year", x.year(3, 1, 20), 8);
        DUE.is("year", x.year(0, 1, 20), 12);
        DUE.is("year", x.year(3, 1, 1), 0);
        DUE.is("year", x.year(3, 1, 2), 1);
        DUE.is("year", x.year(0, 0, 20), 20);
        DUE.is("from the text's SEED on", DUE.glass(text + "seed 1;").year(3, 1, 3), 3);
        DUE.is("no such mark", x.year(12, 1, 1), -1);
        DUE.is("no such mark", x.year(-1, 1, 1), -1);
        DUE.is("no such n", x.year(0, 201, 1), -1);
        DUE.is("no such n", x.year(0, -1, 1), -1);
        DUE.is("no such s", x.year(0, 1, 0), -1);
        DUE.is("no such s", x.year(0, 1, 21), -1);
        DUE.is("far on", DUE.glass(text + "seed 9999;").year(0, 0, 20), 20);
    }

    private static void promise35and36() {
        DUE.about("promises 35, 36");
        FamilyGlass x = DUE.glass("person a 5 0;");
        DUE.is("forget", x.forget(), 0);
        DUE.is("tell", x.tell(-1, 0, true), -1);
        DUE.is("tell", x.tell(25, 0, true), -1);
        DUE.is("tell", x.tell(0, -1, true), -1);
        DUE.is("tell", x.tell(0, 12, true), -1);
        DUE.is("told", x.count(10), 0);
        for (int i = 0; i < 20; i++) {
            DUE.is("tell", x.tell(i + 5, i % 12, i % 2 == 0), i);
        }
        DUE.is("tell the 21st", x.tell(0, 0, true), -1);
        DUE.is("told", x.count(10), 20);
        x.hours(1);
        x.undo();
        DUE.is("told", x.count(10), 20);
        DUE.is("forget", x.forget(), 20);
        DUE.is("told", x.count(10), 0);
        DUE.is("forget", x.forget(), 0);
        DUE.is("tell", x.tell(0, 0, true), 0);
    }

    private static void promise37() {
        DUE.about("promise 37");
        FamilyGlass x = DUE.glass("person b 0 0; person a 0 0; drifts = mood / 2; slips 100;");
        DUE.is("all", x.fits(0, 1, 0), 21);
        DUE.is("least", x.fits(0, 1, 1), 0);
        x.tell(2, 2, true);
        DUE.is("8 .. 20", x.fits(1, 1, 0), 13);
        DUE.is("8 .. 20", x.fits(1, 1, 1), 8);
        x.tell(0, 3, false);
        DUE.is("12 .. 14", x.fits(2, 1, 0), 3);
        DUE.is("12 .. 14", x.fits(2, 1, 1), 12);
        x.tell(0, 0, false);
        DUE.is("none", x.fits(3, 1, 0), 0);
        DUE.is("none", x.fits(3, 1, 1), -2);
        DUE.is("KNOWN by 1", x.fits(1, 1, 0), 13);
        x.cheer(1, true);
        DUE.is("were it so, whatever it is", x.fits(2, 1, 1), 12);
        x.cheer(0, true);
        // b is 1 now: behind 2 HOURS 0
        DUE.is("0 .. 1 and 11 .. 13 by the MARK", x.fits(2, 1, 0), 3);
        DUE.is("11 .. 13", x.fits(2, 1, 1), 11);
        DUE.is("no such k", x.fits(4, 1, 0), -1);
        DUE.is("no such k", x.fits(-1, 1, 0), -1);
        DUE.is("nobody", x.fits(0, 2, 0), -1);
        DUE.is("nobody", x.fits(0, -1, 0), -1);
        DUE.is("no such what", x.fits(0, 1, 2), -1);
        DUE.is("no such what", x.fits(3, 1, -1), -1);
        x = DUE.glass("person a 0 0; needle = hour;");
        x.tell(24, 1, false);
        DUE.is("behind 24", x.fits(1, 0, 0), 21);
        x.hours(1);
        DUE.is("behind 24 from now", x.fits(1, 0, 0), 0);
    }

    private static void promise38() {
        DUE.about("promise 38");
        FamilyGlass x = DUE.glass("person a 0 0; drifts = mood / 2; slips 100;");
        DUE.is("alike: the first", x.look(0, 0, 5), 0);
        DUE.is("look", x.look(0, 0, 2), 2);
        x.tell(2, 2, true);
        DUE.is("look", x.look(1, 0, 2), 3);
        DUE.is("KNOWN by 0", x.look(0, 0, 2), 2);
        x.tell(2, 2, false);
        DUE.is("none left", x.look(2, 0, 2), -2);
        DUE.is("no such k", x.look(3, 0, 2), -1);
        DUE.is("no such k", x.look(-1, 0, 2), -1);
        DUE.is("nobody", x.look(0, 1, 2), -1);
        DUE.is("nobody", x.look(0, -1, 2), -1);
        DUE.is("no such v", x.look(0, 0, 12), -1);
        DUE.is("no such v", x.look(2, 0, -1), -1);
        // the MARK tells something of a behind 24 HOURS alone: whether it is 11 or more; 20
        String late = "person a 0 0; person b 0 0; drifts = if which < 1 then mood else if hour < 23 then 0 else 20;"
                + "needle = if most < 20 then 0 else (sum - 20) / ";
        DUE.is("behind 24", DUE.glass(late + "11;").look(0, 0, 1), 24);
        DUE.is("behind 24", DUE.glass(late + "20;").look(0, 0, 1), 24);
        DUE.is("alike", DUE.glass(late + "21;").look(0, 0, 1), 0);
        x = DUE.glass("person a 0 0; needle = sum / 20;");
        x.tell(0, 1, true);
        DUE.is("20 is left", x.look(1, 0, 5), 0);
        x = DUE.glass("person a 0 0; needle = 1 - sum;");
        x.tell(0, 1, true);
        DUE.is("0 is left", x.look(1, 0, 5), 0);
        // the MARK tells something of the MOOD in the last hour of the day alone
        x = DUE.glass("person a 0 0; needle = if 22 < hour then sum / 10 else 0;");
        DUE.is("behind 23", x.look(0, 0, 1), 23);
        x.hours(23);
        DUE.is("behind 0", x.look(0, 0, 1), 0);
        x.hours(1);
        x.hours(23);
        x.hours(0);
        x.hours(23);
        DUE.is("behind 1", x.look(0, 0, 1), 1);
        x.hours(2);
        DUE.is("behind 23", x.look(0, 0, 1), 23);
    }

    private static void nothingHappens() {
        DUE.about("nothing happens");
        FamilyGlass x = DUE.glass(HOUSE + "slips 40;");
        x.tap();
        x.forbid(2, true);
        x.hours(2);
        int[] counts = new int[17];
        for (int what = 0; what < 17; what++) {
            counts[what] = x.count(what);
        }
        int mark = x.mark();
        x.comes(3);
        x.round(0);
        x.settles();
        x.itself();
        x.forbids(3, 60, 0);
        x.tapping(3, 60);
        x.often(3, 200);
        x.quiet(200);
        x.busiest(200, 0);
        x.coax(3, 60, 0);
        x.changed(3, 60);
        x.gloomiest(0);
        x.parts(3, 0);
        x.pairs(-1);
        x.worth(1, 60);
        x.highest(60, 0);
        x.game(4, 0);
        x.markIn(200);
        x.moodIn(1, 200);
        x.year(3, 200, 20);
        x.fits(0, 1, 0);
        x.look(0, 1, 3);
        for (int what = 0; what < 17; what++) {
            DUE.is("count " + what, x.count(what), counts[what]);
        }
        DUE.is("mark", x.mark(), mark);
    }
}
