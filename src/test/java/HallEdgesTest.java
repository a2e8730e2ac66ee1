/** The edges of LAWS, of AN HOUR and of promises 6 to 14 and 39 to 41: a test for each sentence that names one. */
public final class HallEdgesTest {
    private static final Due DUE = new Due();
    private static final int LEAST = Integer.MIN_VALUE;
    private static final int GREATEST = Integer.MAX_VALUE;
    /** As the LAWS tell the least and the greatest of all ints. */
    private static final String LEAST_OF_ALL = "8192*8192*32";
    private static final String GREATEST_OF_ALL = "(8192*8192*32-1)";
    private static final String HOUSE = "person ann 4 2;person bob 10 5;person cat 0 9;person dan 20 0;"
            + "doing sing ann 10 11 3;doing row bob 0 11 1;doing nap cat 6 3 9;";

    public static void main(String[] args) {
        hourOfTheDay();
        lessThan();
        intsThatWrap();
        roundedTowardsZero();
        dividedByZero();
        notLookedAt();
        varsOfNobody();
        needleHeld();
        jumpsHeld();
        markComesRound();
        changesHeld();
        driftsHeld();
        lots();
        slipBehind11();
        fromWhoseFirstToWhoseLast();
        firstTheGreater();
        oneBehindTheOther();
        markForAll();
        driftsBehindTheDoings();
        laws();
        deepLaws();
        personEdges();
        doingEdges();
        markEdges();
        tapEdges();
        letEdges();
        forbidEdges();
        cheerEdges();
        hoursEdges();
        undoEdges();
        undoOfEach();
        holdEdges();
        restoreEdges();
        countEdges();
        countOfOthers();
        refusedByHand();
        callsAtMost();
        DUE.end();
    }

    private static int needle(String law) {
        return DUE.glass("needle=" + law + ";").mark();
    }

    private static void hourOfTheDay() {
        DUE.about("the hour of the day: its rest by 24");
        FamilyGlass x = DUE.glass("needle=hour;");
        int[] hours = {0, 1, 22, 23, 24, 25, 47, 48, 71, 72};
        int at = 0;
        for (int hour : hours) {
            x.hours(hour - at);
            at = hour;
            DUE.is("counted on", x.count(2), hour);
            DUE.is("of the day", x.count(14), hour % 24);
            DUE.is("VAR hour", x.mark(), hour % 24 % 12);
        }
        x = DUE.glass("needle=hour-12;");
        x.hours(23);
        DUE.is("VAR hour at 23", x.mark(), 11);
        x.hours(1);
        DUE.is("VAR hour at 24", x.mark(), 0);
    }

    private static void lessThan() {
        DUE.about("if that holds (one less than the other)");
        DUE.is("alike", needle("if 3<3 then 1 else 2"), 2);
        DUE.is("less", needle("if 2<3 then 1 else 2"), 1);
        DUE.is("more", needle("if 4<3 then 1 else 2"), 2);
        DUE.is("below 0", needle("if 0-1<0 then 1 else 2"), 1);
        DUE.is("below 0 both", needle("if 0-2<0-1 then 1 else 2"), 1);
        DUE.is("least and greatest", needle("if " + LEAST_OF_ALL + "<" + GREATEST_OF_ALL + " then 1 else 2"), 1);
        DUE.is("greatest and least", needle("if " + GREATEST_OF_ALL + "<" + LEAST_OF_ALL + " then 1 else 2"), 2);
        DUE.about("the E of the first if that holds, else the last one");
        String chain = "if sum<1 then 1 else if sum<2 then 2 else if sum<3 then 3 else if sum<4 then 4 else 5";
        for (int sum = 0; sum < 6; sum++) {
            DUE.is("sum " + sum, DUE.glass("person a " + sum + " 0;needle=" + chain + ";").mark(), Math.min(sum + 1, 5));
        }
    }

    private static void intsThatWrap() {
        DUE.about("ints of 32 bits that wrap");
        DUE.is("greatest", needle(GREATEST_OF_ALL), 7);
        DUE.is("least, held to 0", needle(LEAST_OF_ALL), 0);
        DUE.is("least by what is left", needle("if " + LEAST_OF_ALL + "<0 then 5 else 6"), 5);
        DUE.is("greatest and 1 more", needle("if " + GREATEST_OF_ALL + "+1<0 then 5 else 6"), 5);
        DUE.is("least and 1 less", needle(LEAST_OF_ALL + "-1"), 7);
        DUE.is("0 less the least", needle("if 0-" + LEAST_OF_ALL + "<0 then 5 else 6"), 5);
        DUE.is("2 to the 32nd", needle("8192*8192*64+9"), 9);
        DUE.is("greatest times 2", needle("if " + GREATEST_OF_ALL + "*2<0-1 then 5 else 6"), 5);
        DUE.is("greatest times itself", needle(GREATEST_OF_ALL + "*" + GREATEST_OF_ALL), 1);
        DUE.is("least by -1 wraps too", needle("if " + LEAST_OF_ALL + "/(0-1)<0 then 5 else 6"), 5);
        DUE.is("least by 1", needle("if " + LEAST_OF_ALL + "/1<0 then 5 else 6"), 5);
        DUE.is("least by itself", needle("(" + LEAST_OF_ALL + ")/(" + LEAST_OF_ALL + ")+3"), 4);
    }

    private static void roundedTowardsZero() {
        DUE.about("/ rounded towards 0");
        DUE.is("7 / 2", needle("7/2"), 3);
        DUE.is("-7 / 2", needle("10+(0-7)/2"), 7);
        DUE.is("7 / -2", needle("10+7/(0-2)"), 7);
        DUE.is("-7 / -2", needle("(0-7)/(0-2)"), 3);
        DUE.is("-1 / 2", needle("5+(0-1)/2"), 5);
        DUE.is("1 / -2", needle("5+1/(0-2)"), 5);
        DUE.is("-6 / 2", needle("10+(0-6)/2"), 7);
        DUE.is("0 / 9", needle("5+0/9"), 5);
        DUE.is("greatest / -1", needle("if " + GREATEST_OF_ALL + "/(0-1)<0-2147*1000*1000 then 5 else 6"), 5);
        DUE.is("one behind the other", needle("100/7/2*2"), 14 % 12);
    }

    private static void dividedByZero() {
        DUE.about("a LAW in which something that is looked at is divided by 0 is 0");
        String[] zeros = {"1/0", "0/0", "5+1/0", "1/0+5", "5-1/0", "0*(1/0)", "(1/0)*0", "1/(1/0)", "5+5/(2-2)", "0-1/0",
            "if 1/0<5 then 5 else 6", "if 5<1/0 then 5 else 6", "if 1<2 then 1/0 else 6", "if 2<1 then 5 else 6+1/0",
            "if 2<1 then 5 else if 1/0<5 then 6 else 7", "if 2<1 then 5 else if 1<2 then 6/0 else 7",
            LEAST_OF_ALL + "/0", "((((((7/0))))))"};
        for (String zero : zeros) {
            FamilyGlass x = DUE.glass("person a 7 1;doing d a 0 11 2;needle=" + zero + ";changes=" + zero + ";drifts=" + zero + ";");
            DUE.is("NEEDLE " + zero, x.mark(), 0);
            DUE.is("CHANGES " + zero, x.doing(0, 6), 0);
            DUE.is("DRIFTS " + zero, x.person(0, 3), 0);
            DUE.is("JUMPS " + zero, DUE.glass("jumps=" + zero + ";").count(13), 0);
            x.hours(1);
            DUE.is("behind an HOUR " + zero, x.person(0, 0), 0);
        }
        DUE.is("a LAW alone", DUE.glass("person a 7 1;doing d a 0 11 2;changes=1/0;").person(0, 3), 7);
        DUE.is("a LAW alone", DUE.glass("person a 7 1;doing d a 0 11 2;changes=1/0;").mark(), 7);
        FamilyGlass x = DUE.glass("person a 1 0;needle=9/(sum-2)+9;");
        DUE.is("by -1", x.mark(), 0);
        x.cheer(0, true);
        DUE.is("by 0", x.mark(), 0);
        x.cheer(0, true);
        DUE.is("by 1", x.mark(), 18 % 12);
    }

    private static void notLookedAt() {
        DUE.about("something that is not looked at");
        DUE.is("the else", needle("if 1<2 then 3 else 1/0"), 3);
        DUE.is("the then", needle("if 2<1 then 1/0 else 3"), 3);
        DUE.is("a later if", needle("if 1<2 then 3 else if 1/0<2 then 4 else 5"), 3);
        DUE.is("a later then", needle("if 1<2 then 3 else if 1<2 then 1/0 else 5"), 3);
        DUE.is("thens ahead", needle("if 2<1 then 1/0 else if 2<1 then 2/0 else if 1<2 then 6 else 3/0"), 6);
        DUE.is("thens ahead of the last one", needle("if 2<1 then 1/0 else if 2<1 then 2/0 else 7"), 7);
    }

    private static void varsOfNobody() {
        DUE.about("a VAR not told for a LAW is 0 in it");
        String people = "person a 7 3;doing d a 0 11 9;";
        for (String var : new String[] {"mood", "sway", "mark", "which", "much"}) {
            FamilyGlass x = DUE.glass(people + "person b 2 2;doing e b 0 11 8;needle=5+" + var + ";");
            x.person(1, 3);
            x.doing(1, 6);
            DUE.is("NEEDLE by " + var, x.mark(), 5);
            x = DUE.glass(people + "person b 2 2;doing e b 0 11 8;needle=3;jumps=5+" + var + ";");
            x.person(1, 3);
            x.doing(1, 6);
            DUE.is("JUMPS by " + var, x.count(13), var.equals("mark") ? 8 : 5);
            DUE.is("divided by it", DUE.glass(people + "needle=5+1/" + var + ";").mark(), 0);
        }
        FamilyGlass x = DUE.glass(people + "drifts=5+much;");
        x.doing(0, 6);
        DUE.is("DRIFTS by much", x.person(0, 3), 5);
        x.hours(1);
        DUE.is("DRIFTS by much in an HOUR", x.person(0, 0), 5);
        DUE.about("sum, most of nobody");
        DUE.is("sum", needle("sum+3"), 3);
        DUE.is("most", needle("most+3"), 3);
        DUE.about("most: the greatest MOOD");
        DUE.is("the first's", DUE.glass(Due.people(9, 0, 3) + "needle=most;").mark(), 9);
        DUE.is("the last's", DUE.glass(Due.people(3, 0, 9) + "needle=most;").mark(), 9);
        DUE.is("all 0", DUE.glass(Due.people(0, 0) + "needle=most+1;").mark(), 1);
        DUE.is("of five", DUE.glass(Due.people(20, 20, 20, 20, 20) + "needle=most-20+sum-100;").mark(), 0);
        DUE.is("of five", DUE.glass(Due.people(20, 20, 20, 20, 20) + "needle=sum-95;").mark(), 5);
        DUE.about("taps: how many there were so far");
        x = DUE.glass("needle=taps;jumps=0;");
        for (int taps = 1; taps <= 9; taps++) {
            DUE.is("taps", x.tap(), taps);
        }
        x.let();
        DUE.is("let go", x.mark(), 0);
    }

    private static void needleHeld() {
        DUE.about("NEEDLE is held to 0 or more; the needle's rest: what it tells by 12");
        DUE.is("-1", needle("0-1"), 0);
        DUE.is("-13", needle("0-13"), 0);
        DUE.is("0", needle("0"), 0);
        for (int told : new int[] {1, 11, 12, 13, 23, 24, 9999}) {
            DUE.is("" + told, needle("" + told), told % 12);
        }
    }

    private static void jumpsHeld() {
        DUE.about("JUMPS (mark: the needle's rest), held to 0 .. 11");
        String[] laws = {"0-1", "0", "10", "11", "12", "9999", LEAST_OF_ALL, GREATEST_OF_ALL};
        int[] jumps = {0, 0, 10, 11, 11, 11, 0, 11};
        for (int i = 0; i < laws.length; i++) {
            FamilyGlass x = DUE.glass("jumps=" + laws[i] + ";");
            DUE.is("jumps " + laws[i], x.count(13), jumps[i]);
            DUE.is("tap by jumps " + laws[i], x.tap(), jumps[i]);
        }
        FamilyGlass x = DUE.glass("person a 19 0;jumps=mark;");
        DUE.is("mark: the rest", x.count(13), 7);
        DUE.is("tap", x.tap(), 14 % 12);
        DUE.is("mark: not where it stands, tapped", x.count(13), 7);
        DUE.is("tap", x.tap(), 21 % 12);
    }

    private static void markComesRound() {
        DUE.about("the MARK is the rest by 12 of the needle's rest and JUMPS times the taps, added");
        for (int jumps = 0; jumps <= 11; jumps++) {
            FamilyGlass x = DUE.glass("needle=23;jumps=" + jumps + ";");
            DUE.is("mark", x.mark(), 11);
            for (int taps = 1; taps <= 9; taps++) {
                DUE.is(taps + " taps by " + jumps, x.tap(), (11 + jumps * taps) % 12);
                DUE.is("mark", x.mark(), (11 + jumps * taps) % 12);
            }
        }
    }

    private static void changesHeld() {
        DUE.about("CHANGES: both held to 0 .. 20");
        String[] laws = {"0-1", "0", "19", "20", "21", "9999", LEAST_OF_ALL, GREATEST_OF_ALL};
        int[] moods = {0, 0, 19, 20, 20, 20, 0, 20};
        for (int i = 0; i < laws.length; i++) {
            FamilyGlass x = DUE.glass("person a 5 0;doing d a 5 5 3;changes=" + laws[i] + ";");
            DUE.is("told " + laws[i], x.doing(0, 6), moods[i]);
            x.hours(1);
            DUE.is("done " + laws[i], x.person(0, 0), moods[i]);
        }
        FamilyGlass x = DUE.glass("person a 19 0;doing d a 7 7 1;doing e a 7 7 20;doing f a 7 7 0;changes=mood+much-which;");
        DUE.is("19 + 1", x.doing(0, 6), 20);
        DUE.is("19 + 20 - 1", x.doing(1, 6), 20);
        DUE.is("19 + 0 - 2", x.doing(2, 6), 17);
        x.hours(1);
        DUE.is("held behind each", x.person(0, 0), 18);
    }

    private static void driftsHeld() {
        DUE.about("DRIFTS: both held to 0 .. 20");
        String[] laws = {"0-1", "0", "19", "20", "21", "9999", LEAST_OF_ALL, GREATEST_OF_ALL};
        int[] moods = {0, 0, 19, 20, 20, 20, 0, 20};
        for (int i = 0; i < laws.length; i++) {
            FamilyGlass x = DUE.glass("person a 5 0;drifts=" + laws[i] + ";");
            DUE.is("told " + laws[i], x.person(0, 3), moods[i]);
            x.hours(1);
            DUE.is("drifted " + laws[i], x.person(0, 0), moods[i]);
        }
    }

    private static void lots() {
        DUE.about("LOT 100 .. is less than SLIPS");
        // LOT 100 of SEED 0 is 88 in hour 0, 2 in hour 24, 99 in hour 98, 0 in hour 283
        int[] hours = {0, 24, 98, 283};
        int[] lots = {88, 2, 99, 0};
        for (int i = 0; i < hours.length; i++) {
            for (int slips : new int[] {0, lots[i], lots[i] + 1, 100}) {
                FamilyGlass x = DUE.glass("slips " + slips + ";");
                x.hours(hours[i] / 2);
                x.hours(hours[i] - hours[i] / 2);
                DUE.is("hour " + hours[i] + ", slips " + slips, x.count(12), lots[i] < slips ? 1 : 0);
            }
        }
        // of SEED 9999 51 in hour 0, 54 in hour 2
        DUE.is("SEED 9999", DUE.glass("seed 9999;slips 51;").count(12), 0);
        DUE.is("SEED 9999", DUE.glass("seed 9999;slips 52;").count(12), 1);
    }

    private static void slipBehind11() {
        DUE.about("it is taken to be one more (behind 11: 0)");
        for (int mark = 0; mark < 12; mark++) {
            int next = mark == 11 ? 0 : mark + 1;
            String text = "person a " + mark + " 0;doing d a " + next + " " + next + " 3;doing e a " + mark + " " + mark + " 1;";
            FamilyGlass x = DUE.glass(text + "slips 100;");
            x.hours(1);
            DUE.is("slip from " + mark, x.person(0, 0), mark + 3);
            x = DUE.glass(text);
            x.hours(1);
            DUE.is("no slip from " + mark, x.person(0, 0), mark + 1);
        }
        FamilyGlass x = DUE.glass("person a 11 0;drifts=mood-mark;slips 100;");
        x.hours(1);
        DUE.is("the DRIFTS' mark behind 11", x.person(0, 0), 11);
        x = DUE.glass("person a 11 0;doing d a 0 0 3;changes=mood-mark+1;slips 100;");
        x.hours(1);
        DUE.is("the CHANGES' mark behind 11", x.person(0, 0), 12);
    }

    private static void fromWhoseFirstToWhoseLast() {
        DUE.about("each DOING, not forbidden, from whose first to whose last MARK it stands, is done");
        int[][] bounds = {{0, 11}, {0, 0}, {11, 11}, {4, 4}, {4, 7}, {0, 1}, {10, 11}, {7, 4}, {11, 0}, {1, 0}};
        for (int[] bound : bounds) {
            for (int mark = 0; mark < 12; mark++) {
                FamilyGlass x = DUE.glass("person a 0 0;doing d a " + bound[0] + " " + bound[1] + " 3;needle=" + mark + ";");
                int due = bound[0] <= mark && mark <= bound[1] ? 1 : 0;
                String where = bound[0] + " .. " + bound[1] + " at " + mark;
                DUE.is("would be done " + where, x.doing(0, 5), due);
                DUE.is("bits " + where, x.count(7), due);
                x.forbid(0, true);
                DUE.is("would be done, forbidden " + where, x.doing(0, 5), 0);
                DUE.is("bits, forbidden " + where, x.count(7), 0);
                DUE.is("told all the same " + where, x.doing(0, 6), 3);
                x.hours(1);
                DUE.is("done, forbidden " + where, x.person(0, 0), 0);
                x.forbid(0, false);
                x.hours(1);
                DUE.is("done " + where, x.person(0, 0), 3 * due);
            }
        }
    }

    private static void firstTheGreater() {
        DUE.about("the first greater: none");
        FamilyGlass x = DUE.glass("person a 0 0;doing d a 11 0 3;doing e a 6 5 3;needle=hour;slips 50;");
        for (int hour = 0; hour < 24; hour++) {
            DUE.is("would be done", x.count(7), 0);
            x.hours(1);
        }
        DUE.is("never", x.count(3), 0);
        DUE.is("quiet", x.quiet(200), 200);
    }

    private static void oneBehindTheOther() {
        DUE.about("one behind the other by their numbers, each by how it is then");
        FamilyGlass x = DUE.glass("person a 1 0;person b 2 0;doing d a 3 3 4;doing e b 3 3 1;doing f a 3 3 2;"
                + "changes=if which<1 then mood+much else if which<2 then sum else most*much;");
        x.hours(1);
        // a 1 + 4; b 5 + 2; a 7 * 2
        DUE.is("a", x.person(0, 0), 14);
        DUE.is("b", x.person(1, 0), 7);
        x = DUE.glass("person a 1 0;person b 2 0;doing f a 3 3 2;doing e b 3 3 1;doing d a 3 3 4;"
                + "changes=if 1<which then mood+much else if 0<which then sum else most*much;");
        x.hours(1);
        // a 2 * 2; b 4 + 2; a 4 + 4
        DUE.is("a by other numbers", x.person(0, 0), 8);
        DUE.is("b by other numbers", x.person(1, 0), 6);
    }

    private static void markForAll() {
        DUE.about("but mark: what it was taken for, for all");
        String text = "person a 3 0;doing d a 3 3 2;doing e a 5 5 9;doing f a 3 3 4;changes=mood+much+mark;";
        FamilyGlass x = DUE.glass(text);
        x.hours(1);
        DUE.is("none by where the needle stands behind another", x.person(0, 0), 3 + 2 + 3 + 4 + 3);
        x = DUE.glass(text.replace("3 3", "4 4") + "slips 100;");
        DUE.is("would be done without a SLIP", x.count(7), 0);
        x.hours(1);
        DUE.is("by a SLIP", x.person(0, 0), 3 + 2 + 4 + 4 + 4);
    }

    private static void driftsBehindTheDoings() {
        DUE.about("each PERSON's MOOD DRIFTS, all by how it was behind the doings (mark likewise)");
        FamilyGlass x = DUE.glass("person a 1 0;person b 2 0;doing d a 3 3 4;drifts=if which<1 then sum else sum+most;");
        x.hours(1);
        DUE.is("a", x.person(0, 0), 7);
        DUE.is("b, not by a's drift", x.person(1, 0), 12);
        x = DUE.glass("person a 1 0;person b 2 0;doing d b 3 3 4;drifts=if which<1 then sum+mark else mood+mark;");
        x.hours(1);
        DUE.is("mark likewise: what it was taken for", x.person(0, 0), 7 + 3);
        DUE.is("mark likewise: what it was taken for", x.person(1, 0), 6 + 3);
        DUE.is("by no PEOPLE", new FamilyGlass().hours(5), 5);
        DUE.about("it is the next hour");
        x = DUE.glass("person a 0 0;doing d a 0 11 0;changes=mood+hour;drifts=mood+hour;");
        int[] moods = {0, 2, 6, 12, 20};
        for (int hour = 0; hour < moods.length; hour++) {
            x.hours(1);
            DUE.is("a behind hour " + hour, x.person(0, 0), moods[hour]);
        }
        x = DUE.glass("person a 0 0;drifts=hour;");
        x.hours(24);
        DUE.is("held in hour 23", x.person(0, 0), 20);
        x.hours(1);
        DUE.is("hour 24 is 0", x.person(0, 0), 0);
    }

    private static void laws() {
        DUE.about("left to right, * and / first");
        DUE.is("- -", needle("9-4-3"), 2);
        DUE.is("- +", needle("9-4+3"), 8);
        DUE.is("/ *", needle("9/2*2"), 8);
        DUE.is("* /", needle("9*2/4"), 4);
        DUE.is("/ /", needle("40/5/4"), 2);
        DUE.is("+ *", needle("1+2*3"), 7);
        DUE.is("* +", needle("2*3+1"), 7);
        DUE.is("( )", needle("(1+2)*3"), 9);
        DUE.is("- ( )", needle("9-(4-3)"), 8);
        DUE.is("/ ( )", needle("40/(8/4)"), 20 % 12);
    }

    /** As many ifs and as many ( as can be, with as much as can wait ahead of each. */
    private static void deepLaws() {
        DUE.about("4 ifs, 6 ( within one another");
        String deep = "1+1*(1+1*(1+1*(1+1*(1+1*(1+1*(1+1*1))))))";
        String no = "if 8<" + deep + " then 1/0 else ";
        DUE.is("8", needle(deep), 8);
        DUE.is("behind 4 ifs", needle(no.repeat(4) + deep), 8);
        DUE.is("by the 4th if", needle(no.repeat(3) + "if 7<" + deep + " then " + deep + " else 1/0"), 8);
        DUE.is("not by the 4th if", needle(no.repeat(3) + "if " + deep + "<8 then 1/0 else " + deep), 8);
        DUE.is("by the first one", needle("if " + deep + "<9 then " + deep + " else " + no.repeat(3) + "1/0"), 8);
        String back = "(((((((1+1)*1+1)*1+1)*1+1)*1+1)*1+1)*1+1)".substring(1);
        DUE.is("the other way round", needle(back.substring(0, back.length() - 1)), 8);
        DUE.is("400 TOKENS", needle("0" + "+1".repeat(196) + "*1*1"), 196 % 12);
    }

    private static void personEdges() {
        DUE.about("promise 6: NONE for others");
        FamilyGlass x = DUE.glass(HOUSE);
        for (int person : new int[] {-1, 4, 5, 6, 32, LEAST, GREATEST}) {
            for (int what = 0; what < 4; what++) {
                DUE.is("person " + person + " " + what, x.person(person, what), -1);
            }
        }
        for (int what : new int[] {-1, 4, 5, LEAST, GREATEST}) {
            DUE.is("what " + what, x.person(0, what), -1);
        }
        DUE.is("the first's MOOD", x.person(0, 0), 4);
        DUE.is("the last's MOOD", x.person(3, 0), 20);
        x.cheer(3, false);
        x.hours(1);
        DUE.is("MOOD now", x.person(3, 0), 19);
        DUE.is("MOOD at first stays", x.person(3, 1), 20);
        DUE.is("SWAY", x.person(2, 2), 9);
        DUE.about("promise 6: what DRIFTS tells now, by the MARK as it is");
        x = DUE.glass("person a 1 3;person b 4 2;drifts=100*(sum-5)+which+mark;slips 100;");
        DUE.is("no SLIP", x.person(0, 3), 5);
        DUE.is("no SLIP", x.person(1, 3), 6);
        x.tap();
        DUE.is("tapped", x.person(1, 3), 7);
        DUE.is("nothing happens", x.person(1, 0), 4);
    }

    private static void doingEdges() {
        DUE.about("promise 7: NONE for others");
        FamilyGlass x = DUE.glass(HOUSE);
        for (int doing : new int[] {-1, 3, 5, 6, 32, LEAST, GREATEST}) {
            for (int what = 0; what < 7; what++) {
                DUE.is("doing " + doing + " " + what, x.doing(doing, what), -1);
            }
        }
        for (int what : new int[] {-1, 7, 8, LEAST, GREATEST}) {
            DUE.is("what " + what, x.doing(0, what), -1);
        }
        int[][] due = {{0, 10, 11, 3, 0, 1, 7}, {1, 0, 11, 1, 0, 1, 11}, {2, 6, 3, 9, 0, 0, 9}};
        for (int doing = 0; doing < 3; doing++) {
            for (int what = 0; what < 7; what++) {
                DUE.is("doing " + doing + " " + what, x.doing(doing, what), due[doing][what]);
            }
        }
        DUE.about("promise 7: by the MARK as it is, no SLIP");
        x = DUE.glass("person a 5 0;doing d a 5 5 1;doing e a 6 6 2;changes=10*which+mark;slips 100;");
        DUE.is("at 5", x.doing(0, 5), 1);
        DUE.is("at 6", x.doing(1, 5), 0);
        DUE.is("told", x.doing(0, 6), 5);
        DUE.is("told", x.doing(1, 6), 15);
        x.tap();
        DUE.is("at 5", x.doing(0, 5), 0);
        DUE.is("at 6", x.doing(1, 5), 1);
        DUE.is("told", x.doing(1, 6), 16);
        DUE.is("one alone, not behind the ones ahead", DUE.glass("person a 5 0;doing d a 5 5 9;doing e a 5 5 1;").doing(1, 6), 6);
    }

    private static void markEdges() {
        DUE.about("promise 8: the MARK now");
        DUE.is("no text", new FamilyGlass().mark(), 0);
        DUE.is("all moods", DUE.glass(Due.people(20, 20, 20, 20, 20)).mark(), 100 % 12);
        FamilyGlass x = DUE.glass("person a 11 0;slips 100;");
        DUE.is("no SLIP", x.mark(), 11);
        x.cheer(0, true);
        DUE.is("12", x.mark(), 0);
        x.undo();
        DUE.is("11 again", x.mark(), 11);
    }

    private static void tapEdges() {
        DUE.about("promise 9: NONE, and nothing happens: 9 taps were there");
        FamilyGlass x = DUE.glass("person a 11 0;");
        for (int taps = 1; taps <= 9; taps++) {
            DUE.is("tap " + taps, x.tap(), (11 + taps) % 12);
            DUE.is("taps", x.count(5), taps);
        }
        int[] before = Due.seen(x);
        DUE.is("the 10th", x.tap(), -1);
        DUE.is("the 11th", x.tap(), -1);
        DUE.alike("nothing happens", Due.seen(x), before);
        DUE.is("undo", x.undo(), true);
        DUE.is("taps", x.count(5), 8);
        DUE.is("tap", x.tap(), 8);
        x.let();
        DUE.is("tap again", x.tap(), 0);
    }

    private static void letEdges() {
        DUE.about("promise 10: NONE, and nothing happens: none");
        FamilyGlass x = DUE.glass("person a 3 0;");
        int[] before = Due.seen(x);
        DUE.is("let none", x.let(), -1);
        DUE.alike("nothing happens", Due.seen(x), before);
        for (int taps = 1; taps <= 9; taps++) {
            for (int i = 0; i < taps; i++) {
                x.tap();
            }
            DUE.is("let " + taps, x.let(), taps);
            DUE.is("no taps", x.count(5), 0);
            DUE.is("let again", x.let(), -1);
        }
    }

    private static void forbidEdges() {
        DUE.about("promise 11: false, and nothing happens: it is so, no such DOING");
        StringBuilder text = new StringBuilder("person a 1 0;");
        for (char name = 'b'; name < 'h'; name++) {
            text.append("doing ").append(name).append(" a 0 11 1;");
        }
        FamilyGlass x = DUE.glass(text.toString());
        int[] before = Due.seen(x);
        for (int doing : new int[] {-1, 6, 7, 31, 32, 33, LEAST, GREATEST}) {
            DUE.is("forbid " + doing, x.forbid(doing, true), false);
            DUE.is("allow " + doing, x.forbid(doing, false), false);
        }
        DUE.is("allow what is allowed", x.forbid(5, false), false);
        DUE.alike("nothing happens", Due.seen(x), before);
        for (int doing = 0; doing < 6; doing++) {
            DUE.is("forbid", x.forbid(doing, true), true);
            DUE.is("forbid what is forbidden", x.forbid(doing, true), false);
            DUE.is("bits", x.count(6), (2 << doing) - 1);
            DUE.is("bits done", x.count(7), 63 & ~((2 << doing) - 1));
        }
        DUE.is("done", x.count(9), 6);
        for (int doing = 0; doing < 6; doing++) {
            DUE.is("allow", x.forbid(doing, false), true);
            DUE.is("allow what is allowed", x.forbid(doing, false), false);
        }
        DUE.is("bits", x.count(6), 0);
        DUE.is("no DOINGS", new FamilyGlass().forbid(0, true), false);
    }

    private static void cheerEdges() {
        DUE.about("promise 12: false, and nothing happens: 20, 0 already, no such PERSON");
        FamilyGlass x = DUE.glass(Due.people(0, 20, 1, 19));
        int[] before = Due.seen(x);
        for (int person : new int[] {-1, 4, 5, 32, LEAST, GREATEST}) {
            DUE.is("cheer " + person, x.cheer(person, true), false);
            DUE.is("chide " + person, x.cheer(person, false), false);
        }
        DUE.is("chide 0", x.cheer(0, false), false);
        DUE.is("cheer 20", x.cheer(1, true), false);
        DUE.alike("nothing happens", Due.seen(x), before);
        DUE.is("cheer 0", x.cheer(0, true), true);
        DUE.is("chide 20", x.cheer(1, false), true);
        DUE.is("chide 1", x.cheer(2, false), true);
        DUE.is("cheer 19", x.cheer(3, true), true);
        int[] moods = {1, 19, 0, 20};
        for (int p = 0; p < 4; p++) {
            DUE.is("mood " + p, x.person(p, 0), moods[p]);
        }
        DUE.is("chide 0", x.cheer(2, false), false);
        DUE.is("cheer 20", x.cheer(3, true), false);
        DUE.is("done", x.count(9), 4);
        DUE.is("no PEOPLE", new FamilyGlass().cheer(0, true), false);
    }

    private static void hoursEdges() {
        DUE.about("promise 13: n HOURS (0 .. 200; 0 is no thing done); NONE, and nothing happens: no such n");
        FamilyGlass x = DUE.glass(HOUSE + "slips 50;drifts=mood+which-1;");
        int[] before = Due.seen(x);
        for (int n : new int[] {-1, 201, 202, LEAST, GREATEST}) {
            DUE.is("hours " + n, x.hours(n), -1);
        }
        DUE.is("hours 0", x.hours(0), 0);
        DUE.alike("nothing happens", Due.seen(x), before);
        DUE.is("no thing done", x.undo(), false);
        DUE.is("hours 1", x.hours(1), 1);
        DUE.is("hours 200", x.hours(200), 201);
        DUE.is("hours 0", x.hours(0), 201);
        DUE.is("things done", x.count(9), 2);
        x.undo();
        x.undo();
        before = Due.seen(x);
        for (int i = 1; i <= 200; i++) {
            DUE.is("hours 1", x.hours(1), i);
        }
        int[] far = Due.seen(x);
        for (int i = 0; i < 40; i++) {
            x.undo();
        }
        DUE.is("hour", x.count(2), 160);
        FamilyGlass y = DUE.glass(HOUSE + "slips 50;drifts=mood+which-1;");
        y.hours(200);
        far[9] = 1;
        DUE.alike("200 as 1 two hundred times", Due.seen(y), far);
        y.undo();
        DUE.alike("undone", Due.seen(y), before);
    }

    private static void undoEdges() {
        DUE.about("promise 14: the last 40 can be");
        FamilyGlass x = DUE.glass("person a 10 0;");
        DUE.is("there is none", x.undo(), false);
        for (int i = 1; i <= 41; i++) {
            x.hours(1);
            DUE.is("things", x.count(9), Math.min(i, 40));
        }
        for (int i = 40; i >= 1; i--) {
            DUE.is("undo", x.undo(), true);
            DUE.is("hour", x.count(2), i);
            DUE.is("things", x.count(9), i - 1);
        }
        DUE.is("there is none", x.undo(), false);
        DUE.is("hour", x.count(2), 1);
        for (int i = 0; i < 40; i++) {
            x.hours(1);
        }
        for (int i = 0; i < 20; i++) {
            x.undo();
        }
        x.tap();
        DUE.is("things", x.count(9), 21);
        DUE.is("undo the tap", x.undo(), true);
        DUE.is("taps", x.count(5), 0);
        for (int i = 0; i < 20; i++) {
            DUE.is("undo", x.undo(), true);
        }
        DUE.is("there is none", x.undo(), false);
        DUE.is("hour", x.count(2), 1);
    }

    private static void undoOfEach() {
        DUE.about("promise 14: the last thing done (tap, let, forbid, cheer, hours)");
        FamilyGlass x = DUE.glass(HOUSE + "slips 50;drifts=mood+which-1;jumps=2;");
        x.tap();
        x.forbid(1, true);
        for (int thing = 0; thing < 7; thing++) {
            int[] before = Due.seen(x);
            switch (thing) {
                case 0: x.tap(); break;
                case 1: x.let(); break;
                case 2: x.forbid(0, true); break;
                case 3: x.forbid(1, false); break;
                case 4: x.cheer(0, true); break;
                case 5: x.cheer(0, false); break;
                default: x.hours(30);
            }
            DUE.is("things", x.count(9), 3);
            DUE.is("undo " + thing, x.undo(), true);
            DUE.alike("undone " + thing, Due.seen(x), before);
        }
        int[] before = Due.seen(x);
        x.undo();
        x.forbid(1, true);
        DUE.alike("done anew", Due.seen(x), before);
        DUE.about("promise 14: no other thing is one");
        x = DUE.glass(HOUSE);
        x.hold(0);
        x.tell(0, 0, true);
        x.forget();
        x.feed(0, 0, 0, 0, 0);
        x.back(20);
        x.hours(0);
        x.comes(3);
        x.game(2, 0);
        DUE.is("things", x.count(9), 0);
        DUE.is("there is none", x.undo(), false);
    }

    private static void holdEdges() {
        DUE.about("promise 39: in a SLOT (0 .. 2)");
        FamilyGlass x = DUE.glass(HOUSE);
        int[] before = Due.seen(x);
        for (int slot : new int[] {-1, 3, 4, 32, LEAST, GREATEST}) {
            DUE.is("hold " + slot, x.hold(slot), false);
        }
        DUE.alike("nothing happens", Due.seen(x), before);
        for (int slot = 0; slot < 3; slot++) {
            DUE.is("hold " + slot, x.hold(slot), true);
            DUE.is("slots", x.count(11), slot + 1);
            DUE.is("hold again", x.hold(slot), true);
            DUE.is("slots", x.count(11), slot + 1);
            x.hours(1);
        }
        for (int slot = 2; slot >= 0; slot--) {
            DUE.is("restore", x.restore(slot), true);
            DUE.is("hour", x.count(2), slot);
            DUE.is("slots", x.count(11), 3);
        }
        DUE.about("promise 39: all that goes on (not what is TOLD, nor the tape)");
        x = DUE.glass(HOUSE + "slips 50;drifts=mood+which-1;jumps=2;");
        x.tap();
        x.forbid(2, true);
        x.cheer(2, true);
        x.hours(7);
        x.tell(1, 1, true);
        x.hold(1);
        before = Due.seen(x);
        x.let();
        x.forbid(2, false);
        x.forbid(1, true);
        x.hours(9);
        x.tell(2, 1, true);
        x.feed(0, 0, 0, 0, 0);
        DUE.is("restore", x.restore(1), true);
        before[8] = 20;
        before[9] = 0;
        before[10] = 2;
        DUE.alike("restored", Due.seen(x), before);
    }

    private static void restoreEdges() {
        DUE.about("promise 40: true; false, and nothing happens: no such one, nothing is held");
        FamilyGlass x = DUE.glass(HOUSE);
        x.hold(1);
        x.tap();
        x.hours(3);
        int[] before = Due.seen(x);
        for (int slot : new int[] {-1, 0, 2, 3, 4, 32, 33, LEAST, GREATEST}) {
            DUE.is("restore " + slot, x.restore(slot), false);
        }
        DUE.alike("nothing happens", Due.seen(x), before);
        DUE.is("things can still be undone", x.undo(), true);
        DUE.is("hour", x.count(2), 0);
        DUE.is("restore", x.restore(1), true);
        DUE.is("taps", x.count(5), 0);
        DUE.about("promise 40: nothing can be undone then");
        DUE.is("things", x.count(9), 0);
        DUE.is("undo", x.undo(), false);
        x.cheer(0, true);
        DUE.is("undo what is done then", x.undo(), true);
        DUE.is("undo", x.undo(), false);
        DUE.about("promise 40: that stays there");
        for (int i = 0; i < 3; i++) {
            x.hours(2);
            x.cheer(0, true);
            DUE.is("restore again", x.restore(1), true);
            DUE.is("hour", x.count(2), 0);
            DUE.is("mood", x.person(0, 0), 4);
        }
        x.cheer(0, true);
        x.undo();
        x.hold(0);
        x.hours(5);
        x.hold(0);
        x.undo();
        DUE.is("held anew", x.restore(0), true);
        DUE.is("hour", x.count(2), 5);
        DUE.is("the other stays", x.restore(1), true);
        DUE.is("hour", x.count(2), 0);
    }

    private static void countEdges() {
        DUE.about("promise 41");
        StringBuilder text = new StringBuilder(Due.people(20, 20, 20, 20, 20));
        for (char name = 'f'; name < 'l'; name++) {
            text.append("doing ").append(name).append(" a 0 11 20;");
        }
        FamilyGlass x = DUE.glass(text + "slips 100;jumps=11;");
        for (int i = 0; i < 9; i++) {
            x.tap();
        }
        for (int i = 0; i < 40; i++) {
            x.hours(1);
        }
        for (int i = 0; i < 20; i++) {
            x.tell(24, 11, true);
        }
        for (int slot = 0; slot < 3; slot++) {
            x.hold(slot);
        }
        for (int i = 0; i < 100; i++) {
            x.feed(0, 0, 0, 0, 0);
        }
        int[] most = {5, 6, 40, 100, 20, 9, 0, 63, 2000, 40, 20, 3, 1, 11, 16, 0, 31};
        for (int what = 0; what < most.length; what++) {
            DUE.is("count " + what, x.count(what), most[what]);
        }
        for (int doing = 0; doing < 6; doing++) {
            x.forbid(doing, true);
        }
        DUE.is("all forbidden", x.count(6), 63);
        DUE.is("none would be done", x.count(7), 0);
        x = DUE.glass(Due.people(0, 0, 0, 0, 0));
        DUE.is("all of MOOD 0", x.count(15), 31);
        DUE.is("none of MOOD 20", x.count(16), 0);
        DUE.is("moods", x.count(3), 0);
        DUE.is("the greatest", x.count(4), 0);
        x = DUE.glass(Due.people(1, 19, 0, 20));
        DUE.is("of MOOD 0", x.count(15), 4);
        DUE.is("of MOOD 20", x.count(16), 8);
        DUE.is("the greatest", x.count(4), 20);
        x = new FamilyGlass();
        DUE.is("nobody of MOOD 0", x.count(15), 0);
        DUE.is("nobody of MOOD 20", x.count(16), 0);
        DUE.is("7: no SLIP", DUE.glass("person a 3 0;doing d a 3 3 1;doing e a 4 4 1;slips 100;").count(7), 1);
    }

    private static void countOfOthers() {
        DUE.about("promise 41: NONE for others");
        FamilyGlass x = DUE.glass(HOUSE);
        for (int what : new int[] {-1, -2, 17, 18, 32, LEAST, GREATEST}) {
            DUE.is("count " + what, x.count(what), -1);
            DUE.is("count " + what, new FamilyGlass().count(what), -1);
        }
    }

    private static FamilyGlass lived() {
        FamilyGlass x = DUE.glass(HOUSE + "slips 50;drifts=mood+which-1;");
        for (int i = 0; i < 9; i++) {
            x.tap();
        }
        x.hours(3);
        x.forbid(1, true);
        x.hold(0);
        x.tell(3, 3, true);
        x.hours(1);
        return x;
    }

    /** One glass in which calls are refused, and one in which they are not made, are alike for ever. */
    private static void refusedByHand() {
        DUE.about("refused calls");
        FamilyGlass x = lived();
        x.tap();
        x.forbid(1, true);
        x.forbid(0, false);
        x.forbid(9, true);
        x.cheer(3, true);
        x.cheer(9, true);
        x.hours(0);
        x.hours(201);
        x.restore(1);
        x.restore(-1);
        x.hold(3);
        x.tell(25, 0, true);
        x.back(1);
        FamilyGlass y = lived();
        DUE.is("dan", y.person(3, 0), 20);
        for (int i = 0; i < 14; i++) {
            DUE.alike("behind " + i, Due.seen(x), Due.seen(y));
            DUE.is("undo " + i, x.undo(), y.undo());
        }
        DUE.is("none is left", x.undo(), false);
        DUE.is("restore", x.restore(0), y.restore(0));
        DUE.alike("restored", Due.seen(x), Due.seen(y));
    }

    private static void callsAtMost() {
        DUE.about("512 calls");
        FamilyGlass x = new FamilyGlass();
        for (int i = 1; i <= 511; i++) {
            DUE.is("hours", x.hours(200), 200 * i);
        }
        DUE.is("hour", x.count(2), 102200);
    }
}
