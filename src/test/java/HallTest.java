/** Promises 6 to 14 and 39 to 41, the LAWS and AN HOUR, reckoned by hand. */
public final class HallTest {
    private static final Due DUE = new Due();
    /** MARK 2 at first: sing and row are done; nap never (its first MARK is the greater). */
    private static final String HOUSE = "person ann 4 2; person bob 10 5; person cat 0 0;"
            + "doing sing ann 2 5 3; doing row bob 0 11 1; doing nap cat 6 3 9;";

    public static void main(String[] args) {
        promise6();
        promise7();
        promise8();
        promise9and10();
        promise11();
        promise12();
        promise13();
        promise14();
        promise39and40();
        promise41();
        laws();
        varsOfLaws();
        doingsInTurn();
        slips();
        DUE.end();
    }

    private static void promise6() {
        DUE.about("promise 6");
        FamilyGlass x = DUE.glass("person a 4 2; person b 9 5; drifts = mood + sway + 10 * which - mark;");
        x.cheer(1, true);
        DUE.is("mood", x.person(1, 0), 10);
        DUE.is("mood at first", x.person(1, 1), 9);
        DUE.is("sway", x.person(1, 2), 5);
        // MARK: 14 by 12 is 2
        DUE.is("drifts of a", x.person(0, 3), 4 + 2 + 0 - 2);
        DUE.is("drifts of b", x.person(1, 3), 20);
        DUE.is("what 4", x.person(1, 4), -1);
        DUE.is("what -1", x.person(1, -1), -1);
        DUE.is("nobody", x.person(2, 0), -1);
        DUE.is("nobody", x.person(-1, 0), -1);
        DUE.is("nobody", x.person(Integer.MIN_VALUE, 0), -1);
    }

    private static void promise7() {
        DUE.about("promise 7");
        FamilyGlass x = DUE.glass(HOUSE);
        DUE.is("whose", x.doing(1, 0), 1);
        DUE.is("first", x.doing(0, 1), 2);
        DUE.is("last", x.doing(0, 2), 5);
        DUE.is("much", x.doing(2, 3), 9);
        DUE.is("forbidden", x.doing(0, 4), 0);
        DUE.is("would be done", x.doing(0, 5), 1);
        DUE.is("would be done: first the greater", x.doing(2, 5), 0);
        DUE.is("changes", x.doing(0, 6), 7);
        DUE.is("changes, done or not", x.doing(2, 6), 9);
        x.forbid(0, true);
        DUE.is("forbidden", x.doing(0, 4), 1);
        DUE.is("would be done: forbidden", x.doing(0, 5), 0);
        DUE.is("what 7", x.doing(0, 7), -1);
        DUE.is("what -1", x.doing(0, -1), -1);
        DUE.is("no DOING", x.doing(3, 0), -1);
        DUE.is("no DOING", x.doing(-1, 0), -1);
        DUE.is("no DOING", x.doing(Integer.MAX_VALUE, 6), -1);
        x = DUE.glass("person a 3 7; person b 2 6; doing d a 0 0 1; doing e b 5 5 4; changes = mark + sway + 2 * which + much;"
                + "slips 100;");
        DUE.is("changes by the MARK as it is", x.doing(1, 6), 5 + 6 + 2 + 4);
        DUE.is("changes by the MARK as it is", x.doing(0, 6), 5 + 7 + 0 + 1);
        DUE.is("would be done without a SLIP", x.doing(1, 5), 1);
    }

    private static void promise8() {
        DUE.about("promise 8");
        FamilyGlass x = DUE.glass("person a 20 0; person b 9 0;");
        DUE.is("mark", x.mark(), 5);
        DUE.is("mark below 0", DUE.glass("person a 3 0; needle = sum - 4;").mark(), 0);
        DUE.is("mark far on", DUE.glass("needle = 9999 * 9999;").mark(), 9999 * 9999 % 12);
        x = DUE.glass("person a 3 0; needle = hour + 2 * sum;");
        DUE.is("mark", x.mark(), 6);
        x.hours(23);
        DUE.is("mark", x.mark(), 29 % 12);
        x.hours(1);
        DUE.is("mark at the next day", x.mark(), 6);
    }

    private static void promise9and10() {
        DUE.about("promises 9, 10");
        FamilyGlass x = DUE.glass("person a 8 0; jumps = mark - 3;");
        DUE.is("let", x.let(), -1);
        DUE.is("tap", x.tap(), 1);
        DUE.is("tap", x.tap(), 6);
        DUE.is("taps", x.count(5), 2);
        DUE.is("let", x.let(), 2);
        DUE.is("taps", x.count(5), 0);
        DUE.is("mark", x.mark(), 8);
        DUE.is("let", x.let(), -1);
        DUE.is("done", x.count(9), 3);
        for (int i = 1; i <= 9; i++) {
            DUE.is("tap", x.tap(), (8 + 5 * i) % 12);
        }
        DUE.is("tap", x.tap(), -1);
        DUE.is("taps", x.count(5), 9);
        DUE.is("done", x.count(9), 12);
        DUE.is("let", x.let(), 9);
        DUE.is("tap by taps so far", DUE.glass("jumps = taps + 1;").tap(), 2);
    }

    private static void promise11() {
        DUE.about("promise 11");
        FamilyGlass x = DUE.glass(HOUSE);
        DUE.is("allow what is allowed", x.forbid(1, false), false);
        DUE.is("forbid", x.forbid(1, true), true);
        DUE.is("forbid what is forbidden", x.forbid(1, true), false);
        DUE.is("forbid", x.forbid(2, true), true);
        DUE.is("forbidden", x.count(6), 6);
        DUE.is("allow", x.forbid(1, false), true);
        DUE.is("forbidden", x.count(6), 4);
        DUE.is("no DOING", x.forbid(3, true), false);
        DUE.is("no DOING", x.forbid(-1, true), false);
        DUE.is("no DOING", x.forbid(32, true), false);
        DUE.is("no DOING", x.forbid(34, false), false);
        DUE.is("done", x.count(9), 3);
    }

    private static void promise12() {
        DUE.about("promise 12");
        FamilyGlass x = DUE.glass("person a 19 0; person b 1 0;");
        DUE.is("cheer", x.cheer(0, true), true);
        DUE.is("cheer 20", x.cheer(0, true), false);
        DUE.is("mood", x.person(0, 0), 20);
        DUE.is("chide", x.cheer(1, false), true);
        DUE.is("chide 0", x.cheer(1, false), false);
        DUE.is("mood", x.person(1, 0), 0);
        DUE.is("cheer 0", x.cheer(1, true), true);
        DUE.is("chide 20", x.cheer(0, false), true);
        DUE.is("moods", x.count(3), 20);
        DUE.is("nobody", x.cheer(2, true), false);
        DUE.is("nobody", x.cheer(-1, false), false);
        DUE.is("done", x.count(9), 4);
    }

    private static void promise13() {
        DUE.about("promise 13");
        FamilyGlass x = DUE.glass(HOUSE);
        DUE.is("hours 0", x.hours(0), 0);
        DUE.is("done", x.count(9), 0);
        DUE.is("hours 1", x.hours(1), 1);
        DUE.is("ann", x.person(0, 0), 7);
        DUE.is("bob", x.person(1, 0), 11);
        DUE.is("mark", x.mark(), 6);
        DUE.is("hours 9", x.hours(9), 10);
        DUE.is("ann", x.person(0, 0), 10);
        DUE.is("bob", x.person(1, 0), 20);
        DUE.is("cat", x.person(2, 0), 0);
        DUE.is("hours 200", x.hours(200), 210);
        DUE.is("hours 0", x.hours(0), 210);
        DUE.is("hours 201", x.hours(201), -1);
        DUE.is("hours -1", x.hours(-1), -1);
        DUE.is("hours least", x.hours(Integer.MIN_VALUE), -1);
        DUE.is("hour", x.count(2), 210);
        DUE.is("done", x.count(9), 3);
    }

    private static void promise14() {
        DUE.about("promise 14");
        FamilyGlass x = DUE.glass(HOUSE);
        DUE.is("undo", x.undo(), false);
        x.tap();
        x.hours(5);
        x.forbid(0, true);
        x.let();
        x.cheer(2, true);
        DUE.is("undo cheer", x.undo(), true);
        DUE.is("cat", x.person(2, 0), 0);
        DUE.is("undo let", x.undo(), true);
        DUE.is("taps", x.count(5), 1);
        DUE.is("undo forbid", x.undo(), true);
        DUE.is("forbidden", x.count(6), 0);
        DUE.is("undo hours", x.undo(), true);
        DUE.is("hour", x.count(2), 0);
        DUE.is("moods", x.count(3), 14);
        DUE.is("undo tap", x.undo(), true);
        DUE.is("taps", x.count(5), 0);
        DUE.is("undo", x.undo(), false);
        for (int i = 1; i <= 45; i++) {
            x.hours(1);
            DUE.is("done", x.count(9), Math.min(i, 40));
        }
        for (int i = 1; i <= 40; i++) {
            DUE.is("undo", x.undo(), true);
            DUE.is("hour", x.count(2), 45 - i);
        }
        DUE.is("undo the 41st", x.undo(), false);
        DUE.is("hour", x.count(2), 5);
        x.hours(3);
        DUE.is("undo", x.undo(), true);
        DUE.is("hour", x.count(2), 5);
        DUE.is("undo", x.undo(), false);
        x.tell(0, 0, true);
        x.hold(0);
        DUE.is("no thing done", x.count(9), 0);
    }

    private static void promise39and40() {
        DUE.about("promises 39, 40");
        FamilyGlass x = DUE.glass(HOUSE);
        DUE.is("restore", x.restore(0), false);
        x.tap();
        x.forbid(1, true);
        x.cheer(2, true);
        x.hours(30);
        int sum = x.count(3);
        x.tell(3, 3, true);
        DUE.is("hold", x.hold(2), true);
        DUE.is("hold", x.hold(3), false);
        DUE.is("hold", x.hold(-1), false);
        DUE.is("slots", x.count(11), 1);
        DUE.is("done", x.count(9), 4);
        x.let();
        x.forbid(1, false);
        x.hours(7);
        x.forget();
        x.tell(1, 1, true);
        x.tell(2, 1, true);
        x.feed(0, 0, 0, 0, 0);
        DUE.is("restore", x.restore(1), false);
        DUE.is("restore", x.restore(3), false);
        DUE.is("restore", x.restore(-1), false);
        DUE.is("restore", x.restore(Integer.MIN_VALUE), false);
        DUE.is("done", x.count(9), 7);
        DUE.is("restore", x.restore(2), true);
        DUE.is("hour", x.count(2), 30);
        DUE.is("taps", x.count(5), 1);
        DUE.is("forbidden", x.count(6), 2);
        DUE.is("moods", x.count(3), sum);
        DUE.is("told stays", x.count(10), 2);
        DUE.is("tape stays", x.count(8), 20);
        DUE.is("done", x.count(9), 0);
        DUE.is("undo", x.undo(), false);
        x.hours(1);
        DUE.is("restore again", x.restore(2), true);
        DUE.is("hour", x.count(2), 30);
        x.hours(1);
        x.hold(2);
        x.hold(0);
        DUE.is("slots", x.count(11), 2);
        x.restore(2);
        DUE.is("held anew", x.count(2), 31);
        x.hours(1);
        DUE.is("restore 0", x.restore(0), true);
        DUE.is("hour", x.count(2), 31);
    }

    private static void promise41() {
        DUE.about("promise 41");
        FamilyGlass x = DUE.glass(HOUSE + "person dan 20 1; seed 7; slips 100; jumps = 4;");
        x.tap();
        x.hours(3);
        x.undo();
        x.forbid(1, true);
        x.tell(0, 0, true);
        x.hold(0);
        x.feed(0, 0, 0, 0, 0);
        // sum 34: 10 by 12, and 4 more
        int[] counts = {4, 3, 0, 34, 20, 1, 2, 1, 20, 2, 1, 1, 1, 4, 0, 4, 8};
        for (int what = 0; what < counts.length; what++) {
            DUE.is("count " + what, x.count(what), counts[what]);
        }
        DUE.is("count -1", x.count(-1), -1);
        DUE.is("count 17", x.count(17), -1);
        x.hours(50);
        DUE.is("hour", x.count(2), 50);
        DUE.is("hour of the day", x.count(14), 2);
        x = DUE.glass("person a 0 0; person b 20 0; person c 0 0; person d 20 0; person e 19 0;");
        DUE.is("of MOOD 0", x.count(15), 1 + 4);
        DUE.is("of MOOD 20", x.count(16), 2 + 8);
        DUE.is("jumps held", DUE.glass("jumps = 12;").count(13), 11);
        DUE.is("jumps held", DUE.glass("jumps = 0 - 1;").count(13), 0);
        DUE.is("jumps by the needle's rest", DUE.glass("needle = 17; jumps = mark + 1;").count(13), 6);
    }

    private static int needle(String law) {
        return DUE.glass("person a 4 2; person b 7 3; needle = " + law + ";").mark();
    }

    private static void laws() {
        DUE.about("LAWS");
        DUE.is("left to right", needle("20 - 5 - 4 - 3"), 8);
        DUE.is("left to right", needle("60 / 5 / 4 * 2"), 6);
        DUE.is("parts first", needle("1 + 2 * 3 - 8 / 4"), 5);
        DUE.is("in ( )", needle("(1 + 2) * (7 - 4)"), 9);
        DUE.is("rounded towards 0", needle("11 + (0 - 7) / 2"), 8);
        DUE.is("wraps", needle("9999 * 9999 * 9999"), Math.max(0, 9999 * 9999 * 9999) % 12);
        int far = 9999 * 9999 * 25 + 9999 * 9;
        DUE.is("wraps", needle("9999 * 9999 * 25 + 9999 * 9"), Math.max(0, far) % 12);
        // the least of all by -1 is itself: held to 0
        DUE.is("least by -1", needle("(0 - 1024 * 1024 * 2048) / (0 - 1)"), 0);
        DUE.is("least by -1", needle("0 - 1 - (0 - 1024 * 1024 * 2048) / (0 - 1)"), Integer.MAX_VALUE % 12);
        DUE.is("divided by 0", needle("5 + 1 / (sum - 11)"), 0);
        DUE.is("0 divided", needle("5 + 0 / sum"), 5);
        DUE.is("the first that holds", needle("if 2 < 1 then 3 else if 1 < 2 then 4 else if 1 < 2 then 5 else 6"), 4);
        DUE.is("the last one", needle("if 2 < 1 then 3 else if 2 < 2 then 4 else 6"), 6);
        DUE.is("below 0", needle("if 0 - 1 < 0 then 3 else 4"), 3);
        DUE.is("divided by 0 where it is not looked at", needle("if 1 < 2 then 3 else 1 / 0"), 3);
        DUE.is("divided by 0 where it is not looked at", needle("if 2 < 2 then 1 / 0 else 3"), 3);
        DUE.is("divided by 0 in an if", needle("if 1 / 0 < 2 then 3 else 4"), 0);
        DUE.is("divided by 0 in an if", needle("if 1 < 2 / 0 then 3 else 4"), 0);
        DUE.is("divided by 0 in a later if", needle("if 1 < 2 then 3 else if 1 < 2 / 0 then 5 else 4"), 3);
        // as many numbers wait as can: 1 ahead of <, two at each (, three within
        DUE.is("deep", needle("if 0 < 1+1*(1+1*(1+1*(1+1*(1+1*(1+1*(1+1*1)))))) then 3 else 4"), 3);
        DUE.is("deep", needle("1+1*(1+1*(1+1*(1+1*(1+1*(1+1*(1+1*3))))))"), 10);
        DUE.is("INTS", needle("0009 + 9999 - 9998"), 10);
    }

    /** Each VAR by a base of its own: those not told for a LAW are 0 in it. */
    private static void varsOfLaws() {
        DUE.about("VARS");
        String text = "person a 4 2; person b 7 3; doing d b 11 11 5; doing e b 0 11 6;";
        String[] vars = {"sum", "mood", "sway", "mark", "hour", "taps", "which", "much", "most"};
        // two taps, hour 24 + 3; MARK: 5 and 2 * 1
        int[] needle = {11, 0, 0, 0, 3, 2, 0, 0, 7};
        int[] jumps = {11, 0, 0, 5, 3, 2, 0, 0, 7};
        int[] changes = {11, 7, 3, 7, 3, 2, 1, 6, 7};
        int[] drifts = {11, 7, 3, 7, 3, 2, 1, 0, 7};
        for (int i = 0; i < vars.length; i++) {
            FamilyGlass x = DUE.glass("person a 4 2; person b 7 3; needle = " + vars[i] + "; jumps = 0;");
            x.tap();
            x.tap();
            x.hours(27);
            DUE.is("needle = " + vars[i], x.mark(), needle[i]);
            x = DUE.glass("person a 4 2; person b 7 3; needle = 5; jumps = " + vars[i] + ";");
            x.tap();
            x.tap();
            x.hours(27);
            DUE.is("jumps = " + vars[i], x.count(13), jumps[i]);
            x = DUE.glass(text + "needle = 5; changes = " + vars[i] + ";");
            x.forbid(1, true);
            x.tap();
            x.tap();
            x.hours(27);
            DUE.is("changes = " + vars[i], x.doing(1, 6), changes[i]);
            x = DUE.glass("person a 4 2; person b 7 3; needle = 5; drifts = if hour < 3 then mood else " + vars[i] + ";");
            x.tap();
            x.tap();
            x.hours(3);
            DUE.is("drifts = " + vars[i], x.person(1, 3), drifts[i]);
        }
    }

    private static void doingsInTurn() {
        DUE.about("AN HOUR");
        // each by how it is then: sum 5, 5 + 4, 5 + 4 + 9 held to 20; mark stays what it was
        FamilyGlass x = DUE.glass("person a 2 0; person b 3 0; doing d a 5 5 0; doing e b 5 5 0; changes = mood + sum - 1;");
        x.hours(1);
        DUE.is("a", x.person(0, 0), 6);
        DUE.is("b", x.person(1, 0), 11);
        x = DUE.glass("person a 2 0; person b 3 0; doing d a 5 5 0; doing e b 5 5 0; doing f a 5 6 0; changes = mood + mark;");
        x.hours(1);
        DUE.is("a", x.person(0, 0), 12);
        DUE.is("b", x.person(1, 0), 8);
        // a DOING whose first MARK comes by an earlier DOING alone is not done
        x = DUE.glass("person a 2 0; doing d a 2 2 3; doing e a 5 5 3;");
        x.hours(1);
        DUE.is("a", x.person(0, 0), 5);
        // the DRIFTS all by how it was behind the doings
        x = DUE.glass("person a 2 0; person b 3 0; person c 0 0; doing d a 5 5 4; drifts = sum - mood;");
        x.hours(1);
        DUE.is("a", x.person(0, 0), 3);
        DUE.is("b", x.person(1, 0), 6);
        DUE.is("c", x.person(2, 0), 9);
        // the DRIFTS' mark: likewise what the needle was taken for
        x = DUE.glass("person a 2 0; doing d a 2 2 3; drifts = mood + mark;");
        x.hours(1);
        DUE.is("a", x.person(0, 0), 7);
        x = DUE.glass("person a 2 0; drifts = mood + mark; slips 100;");
        x.hours(1);
        DUE.is("a", x.person(0, 0), 5);
        // held to 0 .. 20, the changes ahead of the drifts
        x = DUE.glass("person a 15 0; doing d a 3 3 20; drifts = mood - 19;");
        x.hours(1);
        DUE.is("a", x.person(0, 0), 1);
        x = DUE.glass("person a 3 0; doing d a 3 3 9; changes = mood - much; drifts = mood + 2;");
        x.hours(1);
        DUE.is("a", x.person(0, 0), 2);
        // the hour of the day is this hour's in all of it
        x = DUE.glass("person a 3 0; doing d a 3 3 9; changes = mood + hour; drifts = mood + 2 * hour;");
        x.hours(1);
        DUE.is("a", x.person(0, 0), 3);
    }

    private static void slips() {
        DUE.about("SLIPS");
        // LOT 100 of SEED 0 at the hours 0, 1 ..: 88 32 26 31 68 9 39 76; of SEED 1234: 39 78 58; of 9999: 51 60
        FamilyGlass x = DUE.glass("slips 50;");
        int[] lots = {88, 32, 26, 31, 68, 9, 39, 76};
        for (int i = 0; i < lots.length; i++) {
            DUE.is("slip in hour " + i, x.count(12), lots[i] < 50 ? 1 : 0);
            x.hours(1);
        }
        DUE.is("as many as its LOT", DUE.glass("slips 88;").count(12), 0);
        DUE.is("one more", DUE.glass("slips 89;").count(12), 1);
        DUE.is("SEED", DUE.glass("slips 39; seed 1234;").count(12), 0);
        DUE.is("SEED", DUE.glass("slips 40; seed 1234;").count(12), 1);
        DUE.is("SEED", DUE.glass("slips 51; seed 9999;").count(12), 0);
        DUE.is("SEED", DUE.glass("slips 52; seed 9999;").count(12), 1);
        x = DUE.glass("person a 11 0; doing d a 0 0 2; doing e a 11 11 5; slips 100;");
        x.hours(1);
        DUE.is("behind 11: 0", x.person(0, 0), 13);
        x = DUE.glass("person a 3 0; doing d a 4 4 2; doing e a 3 3 5; slips 33;");
        x.hours(1);
        DUE.is("no slip", x.person(0, 0), 8);
        x = DUE.glass("person a 3 0; doing d a 4 4 2; slips 33; needle = 3;");
        x.hours(6);
        DUE.is("slips in the hours 1, 2, 3, 5", x.person(0, 0), 11);
    }
}
