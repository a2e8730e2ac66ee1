/** The edges of promises 15 to 38: a test for each sentence that names one. */
public final class WouldBeEdgesTest {
    private static final Due DUE = new Due();
    private static final int LEAST = Integer.MIN_VALUE;
    private static final int GREATEST = Integer.MAX_VALUE;

    public static void main(String[] args) {
        comesEdges();
        roundEdges();
        settlesEdges();
        itselfEdges();
        forbidsEdges();
        forbidsFewest();
        tappingEdges();
        oftenEdges();
        quietEdges();
        busiestEdges();
        coaxEdges();
        coaxAlike();
        changedEdges();
        gloomiestEdges();
        partsEdges();
        pairsEdges();
        worthEdges();
        highestEdges();
        gameEdges();
        gameTurns();
        inHoursEdges();
        yearEdges();
        tellEdges();
        forgetEdges();
        fitsEdges();
        fitsNow();
        lookEdges();
        lookAtWorst();
        noneAheadOfNot();
        noSlips();
        DUE.end();
    }

    /** A mood that is the days gone by: with the hour of the day it counts HOURS up to 504. The MARK is 1 from one on. */
    private static String from(int hour) {
        return "person a 0 0;drifts=mood+hour/23;jumps=0;needle=if 24*sum+hour<" + hour + " then 0 else 1;";
    }

    private static void comesEdges() {
        DUE.about("promise 15: behind how many HOURS (0 .. 200)");
        for (int hour : new int[] {0, 1, 23, 24, 199, 200}) {
            DUE.is("from " + hour, DUE.glass(from(hour)).comes(1), hour);
        }
        DUE.is("from 201", DUE.glass(from(201)).comes(1), -2);
        FamilyGlass x = DUE.glass(from(201));
        x.hours(1);
        DUE.is("from 201 by hour 1", x.comes(1), 200);
        DUE.is("no more", x.comes(11), -2);
        DUE.is("as it is", x.comes(0), 0);
        DUE.about("promise 15: NONE: no such MARK (0 .. 11)");
        for (int mark : new int[] {-1, 12, 13, LEAST, GREATEST}) {
            DUE.is("comes " + mark, x.comes(mark), -1);
        }
        DUE.is("11", DUE.glass("person a 11 0;").comes(11), 0);
        DUE.is("the first of many", DUE.glass("needle=hour;").comes(5), 5);
    }

    private static void isRound(FamilyGlass x, int behind, int more) {
        DUE.is("round 0", x.round(0), behind);
        DUE.is("round 1", x.round(1), more);
    }

    private static void roundEdges() {
        DUE.about("promise 16: behind more HOURS (300 at most in all)");
        // twelve days round, from the end of the first day on
        String twelve = "person a 12 0;drifts=if hour<23 then mood else if mood<11 then mood+1 else 0;";
        int[] hours = {0, 11, 12, 13, 23, 24};
        int[] behind = {-2, -2, 12, 11, 1, 0};
        for (int i = 0; i < hours.length; i++) {
            FamilyGlass x = DUE.glass(twelve);
            x.hours(hours[i]);
            isRound(x, behind[i], behind[i] < 0 ? -2 : 288);
        }
        isRound(DUE.glass("person a 0 0;drifts=if hour<23 then mood else if mood<12 then mood+1 else 0;"), -2, -2);
        isRound(DUE.glass("person a 0 0;drifts=if hour<23 then mood else if mood<11 then mood+1 else 0;"), 0, 288);
        DUE.about("promise 16: the fewest HOURS (0 .. 300)");
        isRound(new FamilyGlass(), 0, 24);
        isRound(DUE.glass(Due.people(3)), 0, 24);
        // one more each hour up to 20
        FamilyGlass x = DUE.glass("person a 0 0;drifts=mood+1;");
        isRound(x, 20, 24);
        x.hours(19);
        isRound(x, 1, 24);
        x.hours(1);
        isRound(x, 0, 24);
        DUE.about("promise 16: all MOODS and the hour of the day");
        isRound(DUE.glass("person a 5 0;drifts=5-mood;"), 0, 24);
        isRound(DUE.glass("person a 0 0;drifts=if mood<4 then mood+1 else 0;"), 0, 120);
        isRound(DUE.glass(Due.people(0, 0, 0, 0, 0) + "drifts=if which<4 then mood else if hour<23 then mood else 1-mood;"), 0, 48);
        isRound(DUE.glass(Due.people(0, 0, 0, 0, 0) + "drifts=if 0<which then mood else if hour<23 then mood else 1-mood;"), 0, 48);
        DUE.about("promise 16: NONE for others");
        for (int what : new int[] {-1, 2, LEAST, GREATEST}) {
            DUE.is("round " + what, x.round(what), -1);
        }
    }

    /** Two people; the second one's MOOD changes in each HOUR, but from one on, counted by the first one's. */
    private static String blinksTill(int hour) {
        return "person a 0 0;person b 0 0;drifts=if which<1 then mood+hour/23 else if 24*(sum-mood)+hour<" + hour
                + " then 1-mood else mood;";
    }

    private static void settlesEdges() {
        DUE.about("promise 17: behind how many HOURS (0 .. 200) an HOUR leaves all MOODS as they are");
        DUE.is("nobody", new FamilyGlass().settles(), 0);
        DUE.is("at once", DUE.glass(Due.people(1, 2, 3, 4, 5)).settles(), 0);
        for (int hour : new int[] {1, 2, 22, 200}) {
            DUE.is("till " + hour, DUE.glass(blinksTill(hour)).settles(), hour);
        }
        DUE.is("till 23: the first one's changes then", DUE.glass(blinksTill(23)).settles(), 24);
        DUE.is("till 201", DUE.glass(blinksTill(201)).settles(), -2);
        FamilyGlass x = DUE.glass(blinksTill(201));
        x.hours(1);
        DUE.is("till 201 by hour 1", x.settles(), 200);
        DUE.is("one of five alone", DUE.glass(Due.people(0, 0, 0, 0, 9) + "drifts=if which<4 then mood else mood-1;").settles(), 9);
        DUE.is("the first of five alone", DUE.glass(Due.people(9, 0, 0, 0, 0) + "drifts=if 0<which then mood else mood-1;").settles(), 9);
        DUE.is("20 at most", DUE.glass("person a 20 0;doing d a 0 11 9;").settles(), 0);
        DUE.is("for one HOUR", DUE.glass("person a 5 0;drifts=if hour<1 then mood else 5-mood;").settles(), 0);
        DUE.is("moods changed round", DUE.glass(Due.people(3, 4) + "drifts=sum-mood;").settles(), -2);
    }

    private static void itselfEdges() {
        DUE.about("promise 18: MARKS v, taken to be at, that would be behind it");
        for (int mark = 0; mark < 12; mark++) {
            DUE.is("all lead to " + mark, DUE.glass("person a " + mark + " 0;").itself(), 1 << mark);
        }
        DUE.is("each leads to itself", DUE.glass("person a 3 0;drifts=mark;").itself(), 4095);
        DUE.is("each leads to the next one", DUE.glass("person a 3 0;drifts=mark+1;").itself(), 0);
        DUE.is("11 by 11", DUE.glass("person a 0 0;doing d a 11 11 11;").itself(), 1 + 2048);
        DUE.is("0 by 0", DUE.glass("person a 5 0;doing d a 0 0 7;").itself(), 1 + 32);
        DUE.is("all of it by v", DUE.glass("person a 0 0;doing d a 0 11 0;changes=mark/2;drifts=mood+mark/2;").itself(), 1365);
        DUE.is("behind hour 0 is hour 1", DUE.glass("needle=hour+3;").itself(), 16);
    }

    private static void forbidsEdges() {
        DUE.about("promise 19: FORBID a MARK for n (1 .. 60)");
        DUE.is("behind 1", DUE.glass(from(1)).forbids(1, 1, 0), -2);
        DUE.is("behind 2", DUE.glass(from(2)).forbids(1, 1, 0), 0);
        DUE.is("behind 60", DUE.glass(from(60)).forbids(1, 60, 1), -2);
        DUE.is("behind 60", DUE.glass(from(60)).forbids(1, 59, 1), 0);
        DUE.is("behind 61", DUE.glass(from(61)).forbids(1, 60, 1), 0);
        DUE.is("behind 0 does not count", DUE.glass("needle=hour;").forbids(0, 11, 0), 0);
        DUE.is("behind 12 does", DUE.glass("needle=hour;").forbids(0, 12, 0), -2);
        DUE.is("in between does", DUE.glass("needle=hour;").forbids(5, 9, 0), -2);
        DUE.about("promise 19: NONE: no such ones");
        FamilyGlass x = DUE.glass(from(1));
        for (int what = 0; what < 2; what++) {
            for (int n : new int[] {0, -1, 61, LEAST, GREATEST}) {
                DUE.is("n " + n, x.forbids(1, n, what), -1);
            }
            for (int mark : new int[] {-1, 12, LEAST, GREATEST}) {
                DUE.is("mark " + mark, x.forbids(mark, 1, what), -1);
            }
        }
        for (int what : new int[] {-1, 2, LEAST, GREATEST}) {
            DUE.is("what " + what, x.forbids(1, 1, what), -1);
        }
    }

    private static void isForbids(FamilyGlass x, int mark, int n, int few, int which) {
        DUE.is("forbids " + mark + " " + n + ": few", x.forbids(mark, n, 0), few);
        DUE.is("forbids " + mark + " " + n + ": which", x.forbids(mark, n, 1), which);
    }

    private static void forbidsFewest() {
        DUE.about("promise 19: how few of the DOINGS not forbidden; of as many the least bits");
        String six = "person a 0 0;doing b a 0 0 1;doing c a 0 0 1;doing d a 0 0 1;doing e a 0 0 1;doing f a 0 0 1;doing g a 0 0 1;";
        FamilyGlass x = DUE.glass(six);
        isForbids(x, 6, 1, 1, 1);
        isForbids(x, 5, 1, 0, 0);
        x.forbid(0, true);
        isForbids(x, 5, 1, 1, 2);
        x = DUE.glass(six + "needle=(sum+5)/6;");
        isForbids(x, 1, 1, 6, 63);
        x.forbid(3, true);
        isForbids(x, 1, 1, 5, 55);
        for (int doing = 0; doing < 6; doing++) {
            x.forbid(doing, true);
        }
        isForbids(x, 1, 60, 0, 0);
        isForbids(x, 0, 1, -2, -2);
        x = DUE.glass(six + "needle=if sum<5 then 0 else 2;");
        isForbids(x, 2, 1, 2, 3);
        x.forbid(1, true);
        isForbids(x, 2, 1, 1, 1);
        DUE.about("promise 19: fewer ahead of less bits");
        x = DUE.glass("person a 0 0;doing b a 0 0 1;doing c a 0 0 1;doing d a 0 0 7;needle=sum/7;");
        isForbids(x, 1, 1, 1, 4);
        DUE.about("promise 19: -2: not by all, though a MARK may come by what is forbidden");
        x = DUE.glass("person a 0 0;doing b a 0 0 1;");
        isForbids(x, 0, 1, 0, 0);
        isForbids(x, 1, 1, 1, 1);
        isForbids(DUE.glass("person a 3 0;"), 3, 1, -2, -2);
        isForbids(DUE.glass("person a 3 0;doing b a 4 4 1;"), 3, 1, -2, -2);
    }

    private static void tappingEdges() {
        DUE.about("promise 20: in n (0 .. 60)");
        DUE.is("behind 0", DUE.glass(from(0)).tapping(1, 0), 0);
        DUE.is("behind 1", DUE.glass(from(1)).tapping(1, 0), -2);
        DUE.is("behind 60", DUE.glass(from(60)).tapping(1, 60), 0);
        DUE.is("behind 61", DUE.glass(from(61)).tapping(1, 60), -2);
        DUE.about("promise 20: how few taps more now (9 in all at most)");
        for (int taps = 0; taps <= 9; taps++) {
            FamilyGlass x = new FamilyGlass();
            for (int i = 0; i < taps; i++) {
                x.tap();
            }
            for (int mark = 0; mark < 12; mark++) {
                int due = mark < taps || mark > 9 ? -2 : mark - taps;
                DUE.is("to " + mark + " by " + taps, x.tapping(mark, 0), due);
                DUE.is("to " + mark + " by " + taps, x.tapping(mark, 60), due);
            }
            DUE.is("nothing happens", x.count(5), taps);
        }
        DUE.is("the fewest of many", DUE.glass("jumps=6;").tapping(6, 0), 1);
        DUE.is("round", DUE.glass("jumps=11;").tapping(3, 0), 9);
        DUE.about("promise 20: NONE: no such ones");
        isNoMarkAndN(0);
    }

    /** Calls by a MARK and n (0 .. 60): 0 tapping, 1 coax, 2 changed. */
    private static void isNoMarkAndN(int which) {
        for (String text : new String[] {"", Due.people(3), Due.people(3, 4)}) {
            FamilyGlass x = DUE.glass(text);
            for (int mark : new int[] {-1, 12, LEAST, GREATEST}) {
                for (int n : new int[] {0, 60, 61}) {
                    DUE.is("mark " + mark + ", n " + n, byMarkAndN(x, which, mark, n), -1);
                }
            }
            for (int n : new int[] {-1, 61, LEAST, GREATEST}) {
                for (int mark : new int[] {0, 3, 11, 12}) {
                    DUE.is("mark " + mark + ", n " + n, byMarkAndN(x, which, mark, n), -1);
                }
            }
        }
    }

    private static int byMarkAndN(FamilyGlass x, int which, int mark, int n) {
        return which == 0 ? x.tapping(mark, n) : which == 1 ? x.coax(mark, n, 0) : x.changed(mark, n);
    }

    private static void oftenEdges() {
        DUE.about("promise 21: OFTEN a MARK in n (0 .. 200): behind how many of 0, 1 .. n");
        DUE.is("0: as it is", DUE.glass(from(0)).often(1, 0), 1);
        DUE.is("0: not as it is", DUE.glass(from(1)).often(1, 0), 0);
        DUE.is("1", DUE.glass(from(1)).often(1, 1), 1);
        DUE.is("all", DUE.glass(from(0)).often(1, 200), 201);
        DUE.is("none", DUE.glass(from(201)).often(1, 200), 0);
        DUE.is("the last one", DUE.glass(from(200)).often(1, 200), 1);
        DUE.is("all but the last one", DUE.glass(from(200)).often(0, 200), 200);
        DUE.about("promise 21: NONE: no such ones");
        FamilyGlass x = DUE.glass(from(0));
        for (int n : new int[] {-1, 201, LEAST, GREATEST}) {
            DUE.is("n " + n, x.often(1, n), -1);
        }
        for (int mark : new int[] {-1, 12, LEAST, GREATEST}) {
            DUE.is("mark " + mark, x.often(mark, 0), -1);
        }
    }

    private static void quietEdges() {
        DUE.about("promise 22: QUIET in n (0 .. 200)");
        FamilyGlass x = DUE.glass("person a 5 0;doing d a 5 5 0;doing e a 5 5 0;");
        DUE.is("none", x.quiet(200), 0);
        x.forbid(0, true);
        DUE.is("none", x.quiet(200), 0);
        x.forbid(1, true);
        DUE.is("all forbidden", x.quiet(200), 200);
        DUE.is("0", x.quiet(0), 0);
        DUE.is("1", x.quiet(1), 1);
        DUE.is("no DOINGS", new FamilyGlass().quiet(200), 200);
        DUE.is("the first HOUR", DUE.glass(from(1) + "doing d a 1 1 0;").quiet(200), 1);
        DUE.is("the last HOUR", DUE.glass(from(199) + "doing d a 0 0 0;").quiet(200), 1);
        DUE.is("behind the last HOUR", DUE.glass(from(200) + "doing d a 0 0 0;").quiet(200), 0);
        DUE.about("promise 22: NONE: no such n");
        for (int n : new int[] {-1, 201, LEAST, GREATEST}) {
            DUE.is("n " + n, x.quiet(n), -1);
        }
    }

    private static void busiestEdges() {
        DUE.about("promise 23: BUSIEST in n (0 .. 200)");
        String text = from(199) + "doing d a 1 1 0;doing e a 0 0 0;doing f a 0 0 0;doing g a 2 1 0;";
        FamilyGlass x = DUE.glass(text);
        DUE.is("which", x.busiest(200, 0), 1);
        DUE.is("in how many", x.busiest(200, 1), 199);
        DUE.is("0: of alike ones the first", x.busiest(0, 0), 0);
        DUE.is("0: in how many", x.busiest(0, 1), 0);
        DUE.is("1", x.busiest(1, 0), 1);
        DUE.is("1", x.busiest(1, 1), 1);
        x.forbid(1, true);
        DUE.is("not forbidden", x.busiest(200, 0), 2);
        x.forbid(2, true);
        DUE.is("the last HOUR", x.busiest(200, 0), 0);
        DUE.is("the last HOUR", x.busiest(200, 1), 1);
        DUE.is("ahead of it", x.busiest(199, 1), 0);
        x.forbid(0, true);
        DUE.is("all in none", x.busiest(200, 0), 0);
        DUE.is("all in none", x.busiest(200, 1), 0);
        StringBuilder six = new StringBuilder("person a 3 0;");
        for (char name = 'b'; name < 'h'; name++) {
            six.append("doing ").append(name).append(name == 'g' ? " a 3 3 0;" : " a 4 4 0;");
        }
        DUE.is("the sixth", DUE.glass(six.toString()).busiest(7, 0), 5);
        DUE.is("the sixth", DUE.glass(six.toString()).busiest(7, 1), 7);
        DUE.about("promise 23: NONE: no such ones; -2: no DOINGS");
        for (int n : new int[] {-1, 201, LEAST, GREATEST}) {
            DUE.is("n " + n, x.busiest(n, 0), -1);
        }
        for (int what : new int[] {-1, 2, LEAST, GREATEST}) {
            DUE.is("what " + what, x.busiest(1, what), -1);
        }
        for (String none : new String[] {"", Due.people(4)}) {
            x = DUE.glass(none);
            DUE.is("no DOINGS", x.busiest(0, 0), -2);
            DUE.is("no DOINGS", x.busiest(200, 1), -2);
        }
    }

    private static void isCoax(FamilyGlass x, int mark, int n, int by, int whose, int mood) {
        DUE.is("coax " + mark + " " + n + ": by", x.coax(mark, n, 0), by);
        DUE.is("coax " + mark + " " + n + ": whose", x.coax(mark, n, 1), whose);
        DUE.is("coax " + mark + " " + n + ": mood", x.coax(mark, n, 2), mood);
    }

    private static void coaxEdges() {
        DUE.about("promise 24: COAX to a MARK in n (0 .. 60)");
        isCoax(DUE.glass(from(60)), 1, 60, 0, 0, 0);
        isCoax(DUE.glass(from(61)), 1, 60, 1, 0, 1);
        isCoax(DUE.glass(from(0)), 1, 0, 0, 0, 0);
        isCoax(DUE.glass(from(1)), 1, 0, 1, 0, 1);
        DUE.about("promise 24: 0 .. 20 all the time");
        isCoax(DUE.glass("person a 20 0;needle=20-sum;"), 8, 0, 8, 0, 12);
        isCoax(DUE.glass("person a 20 0;needle=(20-sum)/20;"), 1, 0, 20, 0, 0);
        isCoax(DUE.glass("person a 0 0;needle=sum/20;"), 1, 0, 20, 0, 20);
        isCoax(DUE.glass("person a 19 0;needle=sum/21;"), 1, 0, -2, -2, -2);
        isCoax(DUE.glass("person a 1 0;needle=0-sum-1;"), 1, 0, -2, -2, -2);
        isCoax(DUE.glass("person a 10 0;needle=sum/20;"), 1, 0, 10, 0, 20);
        isCoax(DUE.glass("person a 10 0;needle=(20-sum)/20;"), 1, 0, 10, 0, 0);
        isCoax(DUE.glass("person a 11 0;needle=(20-sum)/20;"), 1, 0, 11, 0, 0);
        DUE.about("promise 24: 0 changed: whose 0, the MOOD that of PERSON 0");
        isCoax(DUE.glass(Due.people(7, 3)), 10, 0, 0, 0, 7);
        DUE.about("promise 24: -2: by none, no PEOPLE");
        isCoax(new FamilyGlass(), 0, 0, -2, -2, -2);
        isCoax(new FamilyGlass(), 5, 60, -2, -2, -2);
        isCoax(DUE.glass("person a 3 0;needle=4;"), 5, 0, -2, -2, -2);
        DUE.about("promise 24: NONE: no such ones");
        isNoMarkAndN(1);
        for (int what : new int[] {-1, 3, LEAST, GREATEST}) {
            DUE.is("what " + what, DUE.glass(Due.people(7, 3)).coax(10, 0, what), -1);
            DUE.is("what " + what, new FamilyGlass().coax(10, 0, what), -1);
        }
    }

    private static void coaxAlike() {
        DUE.about("promise 24: of alike ones the first PERSON; less ahead of more");
        isCoax(DUE.glass(Due.people(5, 5, 5)), 4, 0, 1, 0, 6);
        isCoax(DUE.glass(Due.people(20, 5, 5)), 7, 0, 1, 1, 6);
        isCoax(DUE.glass(Due.people(0, 5, 5)), 9, 0, 1, 1, 4);
        isCoax(DUE.glass(Due.people(0, 0, 0, 0, 5)), 4, 0, 1, 4, 4);
        isCoax(DUE.glass(Due.people(5, 5) + "needle=(sum-10)*(sum-10);"), 4, 0, 2, 0, 3);
        isCoax(DUE.glass(Due.people(1, 5) + "needle=(sum-6)*(sum-6);"), 4, 0, 2, 0, 3);
        isCoax(DUE.glass(Due.people(5, 1) + "needle=(sum-6)*(sum-6);"), 4, 0, 2, 0, 3);
        // the first PERSON's more ahead of the second one's less
        isCoax(DUE.glass(Due.people(0, 5) + "needle=(sum-5)*(sum-5);"), 1, 0, 1, 0, 1);
    }

    private static void changedEdges() {
        DUE.about("promise 25: CHANGED to a MARK in n (0 .. 60)");
        DUE.is("behind 0", DUE.glass(Due.people(3, 4)).changed(7, 0), 1);
        String late = "person a 0 0;person b 1 0;drifts=if 1<which then mood else if hour<23 then mood else mood+1;needle="
                + "if sum<9 then 0 else 1;";
        DUE.is("not in 23", DUE.glass(late.replace("sum<9", "sum<3")).changed(1, 23), -2);
        DUE.is("in 24", DUE.glass(late.replace("sum<9", "sum<3")).changed(1, 24), 1);
        FamilyGlass x = DUE.glass(late.replace("sum<9", "sum<7"));
        x.hours(12);
        DUE.is("in 60", x.changed(1, 60), 1);
        DUE.is("not in 59", x.changed(1, 59), -2);
        DUE.about("promise 25: the first two (10 * the lesser + the other); -2: none");
        String own = "drifts=if which<4 then 0 else mood;";
        x = DUE.glass(Due.people(1, 2, 3, 4, 5) + own);
        int[] due = {-2, 4, 14, 24, 34, 1};
        for (int mark = 0; mark < due.length; mark++) {
            DUE.is("to " + mark, x.changed(mark, 1), due[mark]);
        }
        DUE.is("alike: the first two", DUE.glass(Due.people(1, 2, 2, 2, 5) + own).changed(2, 1), 14);
        DUE.is("two alike", DUE.glass(Due.people(5, 5)).changed(10, 0), 1);
        DUE.is("none", DUE.glass(Due.people(5, 5)).changed(9, 0), -2);
        DUE.is("one PERSON", DUE.glass(Due.people(5)).changed(5, 0), -2);
        DUE.is("nobody", new FamilyGlass().changed(0, 0), -2);
        DUE.about("promise 25: NONE: no such ones");
        isNoMarkAndN(2);
    }

    private static void gloomiestEdges() {
        DUE.about("promise 26: the PERSON of least MOOD, of alike ones the first");
        int[][] moods = {{0}, {20}, {3, 3}, {20, 20, 20, 20, 20}, {5, 4, 3, 2, 1}, {1, 2, 3, 4, 5}, {5, 1, 4, 1, 1}, {0, 0, 0, 0, 0}};
        int[] who = {0, 0, 0, 0, 4, 0, 1, 0};
        for (int i = 0; i < moods.length; i++) {
            FamilyGlass x = DUE.glass(Due.people(moods[i]));
            DUE.is("who " + i, x.gloomiest(0), who[i]);
            DUE.is("how much " + i, x.gloomiest(1), moods[i][who[i]]);
        }
        DUE.about("promise 26: NONE for others; -2: no PEOPLE");
        for (FamilyGlass x : new FamilyGlass[] {new FamilyGlass(), DUE.glass(Due.people(3))}) {
            for (int what : new int[] {-1, 2, LEAST, GREATEST}) {
                DUE.is("what " + what, x.gloomiest(what), -1);
            }
        }
        DUE.is("nobody", new FamilyGlass().gloomiest(0), -2);
        DUE.is("nobody", new FamilyGlass().gloomiest(1), -2);
    }

    private static void isParts(FamilyGlass x, int v, int many, int which) {
        DUE.is("parts " + v + ": many", x.parts(v, 0), many);
        DUE.is("parts " + v + ": which", x.parts(v, 1), which);
    }

    private static void partsEdges() {
        DUE.about("promise 27: PARTS of v (0 .. 100): how many sets of PEOPLE (none, too)");
        isParts(new FamilyGlass(), 0, 1, 0);
        isParts(new FamilyGlass(), 1, 0, -2);
        isParts(new FamilyGlass(), 100, 0, -2);
        isParts(DUE.glass(Due.people(0, 0, 0, 0, 0)), 0, 32, 0);
        isParts(DUE.glass(Due.people(0, 0, 0, 0, 0)), 1, 0, -2);
        isParts(DUE.glass(Due.people(20, 20, 20, 20, 20)), 100, 1, 31);
        isParts(DUE.glass(Due.people(20, 20, 20, 20, 20)), 99, 0, -2);
        isParts(DUE.glass(Due.people(20, 20, 20, 20, 20)), 0, 1, 0);
        isParts(DUE.glass(Due.people(20, 20, 20, 20, 19)), 99, 1, 31);
        isParts(DUE.glass(Due.people(20, 20, 20, 20, 19)), 100, 0, -2);
        isParts(DUE.glass(Due.people(1, 2, 4, 8, 16)), 31, 1, 31);
        isParts(DUE.glass(Due.people(1, 2, 4, 8, 16)), 16, 1, 16);
        DUE.about("promise 27: of these the least bits");
        isParts(DUE.glass(Due.people(5, 2, 3, 1, 4)), 5, 3, 1);
        isParts(DUE.glass(Due.people(2, 3, 5, 1, 4)), 5, 3, 3);
        isParts(DUE.glass(Due.people(0, 5, 5)), 5, 4, 2);
        DUE.about("promise 27: NONE: no such ones");
        FamilyGlass x = DUE.glass(Due.people(5, 2, 3, 1, 4));
        for (int v : new int[] {-1, 101, LEAST, GREATEST}) {
            isParts(x, v, -1, -1);
        }
        for (int what : new int[] {-1, 2, LEAST, GREATEST}) {
            DUE.is("what " + what, x.parts(5, what), -1);
            DUE.is("what " + what, x.parts(99, what), -1);
        }
    }

    private static void isPairs(int[] moods, int... due) {
        FamilyGlass x = DUE.glass(Due.people(moods));
        for (int i = -1; i < due.length - 1; i++) {
            DUE.is("pairs " + i, x.pairs(i), due[i + 1]);
        }
        for (int i : new int[] {-2, due.length - 1, due.length, LEAST, GREATEST}) {
            DUE.is("no such PERSON " + i, x.pairs(i), -1);
        }
    }

    private static void pairsEdges() {
        DUE.about("promise 28: as many pairs of PEOPLE as can be, each in one at most");
        isPairs(new int[] {}, 0);
        isPairs(new int[] {20}, 0, -2);
        isPairs(new int[] {0, 20}, 20, 1, 0);
        isPairs(new int[] {0, 0, 20, 20}, 0, 1, 0, 3, 2);
        isPairs(new int[] {0, 20, 0, 20}, 0, 2, 3, 0, 1);
        isPairs(new int[] {0, 20, 20, 0}, 0, 3, 2, 1, 0);
        isPairs(new int[] {0, 0, 0, 20}, 20, 1, 0, 3, 2);
        DUE.about("promise 28: of alike ones the lowest for the first, nobody behind all, then for the next one");
        isPairs(new int[] {6, 6, 6}, 0, 1, 0, -2);
        isPairs(new int[] {6, 6, 6, 6, 6}, 0, 1, 0, 3, 2, -2);
        isPairs(new int[] {1, 2, 3}, 1, 1, 0, -2);
        isPairs(new int[] {2, 1, 3}, 1, 1, 0, -2);
        isPairs(new int[] {1, 3, 2}, 1, 2, -2, 0);
        isPairs(new int[] {9, 1, 2}, 1, -2, 2, 1);
        isPairs(new int[] {1, 2, 3, 4}, 2, 1, 0, 3, 2);
        isPairs(new int[] {1, 2, 3, 4, 5}, 2, 1, 0, 3, 2, -2);
        isPairs(new int[] {1, 3, 5, 7, 0}, 3, 4, 2, 1, -2, 0);
        isPairs(new int[] {4, 4, 9, 4, 4}, 0, 1, 0, -2, 4, 3);
        isPairs(new int[] {9, 4, 4, 4, 4}, 0, -2, 2, 1, 4, 3);
        isPairs(new int[] {4, 9, 4, 4, 4}, 0, 2, -2, 0, 4, 3);
        isPairs(new int[] {20, 0, 20, 0, 20}, 0, 2, 3, 0, 1, -2);
    }

    private static void worthEdges() {
        DUE.about("promise 29: WORTH of a PERSON in n (0 .. 60)");
        FamilyGlass x = DUE.glass(Due.people(7, 3) + "jumps=0;");
        DUE.is("0", x.worth(0, 0), 7);
        DUE.is("0", x.worth(1, 0), 3);
        DUE.is("60", x.worth(1, 60), 3);
        DUE.is("of MOOD 0", DUE.glass(Due.people(0, 3)).worth(0, 60), 0);
        DUE.is("may be below 0", DUE.glass(Due.people(20, 3, 4, 5, 6) + "drifts=20-most;").worth(0, 1), 0 - 5 * 14);
        DUE.is("may be -1", DUE.glass(Due.people(1) + "drifts=1-mood;").worth(0, 1), -1);
        DUE.is("100", DUE.glass(Due.people(20, 0, 0, 0, 0) + "drifts=most;").worth(0, 60), 100);
        DUE.is("-100", DUE.glass(Due.people(20, 0, 0, 0, 0) + "drifts=20-most;").worth(0, 1), -100);
        String late = "person a 0 0;person b 9 0;drifts=if which<1 then mood+hour/23 else if 24*(sum-mood)+hour<59 then mood else 4;";
        DUE.is("in 59", DUE.glass(late).worth(1, 59), 9);
        DUE.is("in 60", DUE.glass(late).worth(1, 60), 0);
        DUE.about("promise 29: -100000: no such ones");
        for (int person : new int[] {-1, 2, 5, LEAST, GREATEST}) {
            DUE.is("person " + person, x.worth(person, 0), -100000);
        }
        for (int n : new int[] {-1, 61, LEAST, GREATEST}) {
            DUE.is("n " + n, x.worth(0, n), -100000);
        }
        DUE.is("nobody", new FamilyGlass().worth(0, 0), -100000);
    }

    private static void highestEdges() {
        DUE.about("promise 30: HIGHEST in n (0 .. 60): behind 0, 1 .. n HOURS; behind how many first");
        FamilyGlass x = DUE.glass(Due.people(20, 20, 20, 20, 20));
        DUE.is("all", x.highest(60, 0), 100);
        DUE.is("first", x.highest(60, 1), 0);
        String late = "person a 0 0;person b 0 0;drifts=if which<1 then mood+hour/23 else if 24*(sum-mood)+hour<59 then 0 else 20;";
        x = DUE.glass(late);
        DUE.is("in 0", x.highest(0, 0), 0);
        DUE.is("in 59", x.highest(59, 0), 2);
        DUE.is("first", x.highest(59, 1), 48);
        DUE.is("in 60", x.highest(60, 0), 22);
        DUE.is("first", x.highest(60, 1), 60);
        x.hours(1);
        DUE.is("in 59 from 1 on", x.highest(59, 1), 59);
        x = DUE.glass("person a 5 0;drifts=5-mood;");
        DUE.is("again and again", x.highest(60, 1), 0);
        x.hours(1);
        DUE.is("again and again", x.highest(60, 1), 1);
        DUE.is("nobody", new FamilyGlass().highest(60, 0), 0);
        DUE.is("nobody", new FamilyGlass().highest(60, 1), 0);
        DUE.about("promise 30: NONE: no such ones");
        for (int n : new int[] {-1, 61, LEAST, GREATEST}) {
            DUE.is("n " + n, x.highest(n, 0), -1);
            DUE.is("n " + n, x.highest(n, 1), -1);
        }
        for (int what : new int[] {-1, 2, LEAST, GREATEST}) {
            DUE.is("what " + what, x.highest(0, what), -1);
        }
    }

    private static void isGame(FamilyGlass x, int n, int much, int taps) {
        DUE.is("game " + n + ": how much", x.game(n, 0), much);
        DUE.is("game " + n + ": taps", x.game(n, 1), taps);
    }

    private static void gameEdges() {
        DUE.about("promise 31: GAME of n (1 .. 4); NONE: no such ones");
        FamilyGlass x = DUE.glass("person a 3 0;drifts=mood+taps;");
        for (int n : new int[] {0, -1, 5, LEAST, GREATEST}) {
            isGame(x, n, -1, -1);
        }
        for (int what : new int[] {-1, 2, LEAST, GREATEST}) {
            DUE.is("what " + what, x.game(1, what), -1);
        }
        isGame(x, 1, 4, 1);
        isGame(x, 2, 6, 1);
        isGame(x, 3, 9, 1);
        isGame(x, 4, 13, 1);
        for (int n = 1; n <= 4; n++) {
            isGame(new FamilyGlass(), n, 0, 0);
            isGame(DUE.glass(Due.people(20, 20, 20, 20, 20)), n, 100, 0);
        }
        DUE.about("promise 31: as little as 0");
        isGame(DUE.glass("person a 0 0;doing d a 0 11 1;"), 1, 0, 0);
        isGame(DUE.glass("person a 0 0;doing d a 0 11 2;doing e a 0 11 1;jumps=0;"), 1, 1, 0);
        DUE.about("promise 31: 9 taps at most");
        // the LAW gives as many more as there are taps, in three thirds
        int[] due = {3 + 6 + 7 + 8 + 9, 3 + 7 + 8 + 9 + 9, 3 + 8 + 9 + 9 + 9, 3 + 9 + 9 + 9 + 9, 3 + 9 + 9 + 9 + 9};
        for (int taps = 5; taps <= 9; taps++) {
            x = DUE.glass("person a 3 0;person b 0 0;person c 0 0;drifts=if which<1 then mood+(taps+2)/3"
                    + " else if which<2 then mood+(taps+1)/3 else mood+taps/3;");
            for (int i = 0; i < taps; i++) {
                x.tap();
            }
            isGame(x, 4, due[taps - 5], taps < 9 ? 1 : 0);
            DUE.is("nothing happens", x.count(5), taps);
            while (x.tap() >= 0) {
                DUE.is("asked ahead of the 9th", x.game(1, 1), x.count(5) < 9 ? 1 : 0);
            }
            DUE.is("asked behind the 9th", x.game(1, 1), 0);
        }
    }

    private static void gameTurns() {
        DUE.about("promise 31: 1 if that gives more than not to; else 0");
        isGame(DUE.glass("person a 3 0;drifts=mood+1;"), 1, 4, 0);
        isGame(DUE.glass("person a 3 0;drifts=mood+taps-1;"), 1, 3, 1);
        isGame(DUE.glass("person a 3 0;drifts=mood-taps;"), 1, 3, 0);
        isGame(DUE.glass("person a 3 0;drifts=mood-taps;"), 4, 3, 0);
        DUE.about("promise 31: an aunt forbids one DOING not forbidden, or none");
        isGame(DUE.glass("person a 3 0;doing d a 0 11 5;"), 1, 3, 0);
        isGame(DUE.glass("person a 3 0;doing d a 0 11 5;doing e a 0 11 4;"), 1, 7, 0);
        isGame(DUE.glass("person a 9 0;doing d a 0 11 5;changes=mood-much;"), 1, 4, 0);
        isGame(DUE.glass("person a 9 0;doing d a 0 11 5;changes=mood-much;"), 2, 0, 0);
        FamilyGlass x = DUE.glass("person a 3 0;doing d a 0 11 5;doing e a 0 11 4;doing f a 0 11 1;");
        isGame(x, 1, 8, 0);
        x.forbid(0, true);
        isGame(x, 1, 4, 0);
        x.forbid(1, true);
        isGame(x, 1, 3, 0);
        x.forbid(2, true);
        isGame(x, 1, 3, 0);
        DUE.about("promise 31: for that HOUR alone");
        // she can keep off the one, or the other, in each HOUR anew
        isGame(DUE.glass("person a 0 0;doing d a 0 11 3;doing e a 0 11 1;jumps=0;"), 4, 4, 0);
        DUE.about("promise 31: she by what he did");
        x = DUE.glass("person a 0 0;doing d a 0 0 4;doing e a 0 0 3;doing f a 1 1 6;doing g a 1 1 5;");
        isGame(x, 1, 5, 1);
        DUE.about("promise 31: all MOODS, added, behind all, not on the way");
        isGame(DUE.glass("person a 0 0;drifts=if hour<1 then 9 else 2;"), 2, 2, 0);
        DUE.about("promise 31: the sixth DOING");
        StringBuilder six = new StringBuilder("person a 0 0;");
        for (char name = 'b'; name < 'h'; name++) {
            six.append("doing ").append(name).append(name == 'g' ? " a 0 0 9;" : " a 0 0 1;");
        }
        isGame(DUE.glass(six.toString()), 1, 5, 0);
    }

    private static void inHoursEdges() {
        DUE.about("promises 32, 33: IN n HOURS (0 .. 200; with SLIPS)");
        String text = "person a 1 3;person b 2 4;doing d a 3 7 2;doing e b 4 9 3;drifts=if 9<mood then mood-9 else mood+which;"
                + "slips 40;seed 77;";
        FamilyGlass x = DUE.glass(text);
        for (int start : new int[] {0, 30}) {
            x.hours(start);
            for (int n : new int[] {0, 1, 2, 23, 24, 199, 200}) {
                FamilyGlass y = DUE.glass(text);
                y.hours(start);
                y.hours(n);
                DUE.is("markIn " + n, x.markIn(n), y.mark());
                DUE.is("moodIn " + n, x.moodIn(0, n), y.person(0, 0));
                DUE.is("moodIn " + n, x.moodIn(1, n), y.person(1, 0));
            }
        }
        DUE.about("promises 32, 33: NONE: no such ones");
        for (int n : new int[] {-1, 201, LEAST, GREATEST}) {
            DUE.is("markIn " + n, x.markIn(n), -1);
            DUE.is("moodIn " + n, x.moodIn(0, n), -1);
        }
        for (int person : new int[] {-1, 2, 5, LEAST, GREATEST}) {
            DUE.is("moodIn of " + person, x.moodIn(person, 0), -1);
        }
        DUE.is("nobody", new FamilyGlass().moodIn(0, 0), -1);
        DUE.is("nobody", new FamilyGlass().markIn(200), 0);
    }

    private static void yearEdges() {
        DUE.about("promise 34: by s SEEDS (1 .. 20) from the text's SEED on");
        // LOT 100 in hour 0 of the SEEDS 9999, 10000, 10001, 10002: 51 85 58 86
        String text = "person a 0 0;doing d a 1 1 3;seed 9999;slips 86;";
        FamilyGlass x = DUE.glass(text);
        DUE.is("1", x.year(3, 1, 1), 1);
        DUE.is("2", x.year(3, 1, 2), 2);
        DUE.is("3", x.year(3, 1, 3), 3);
        DUE.is("4", x.year(3, 1, 4), 3);
        DUE.is("4", x.year(0, 1, 4), 1);
        DUE.is("20: 95 and 89 do not either", x.year(3, 1, 20), 16);
        DUE.is("20", x.year(0, 1, 20), 4);
        DUE.is("0 HOURS", x.year(0, 0, 20), 20);
        DUE.is("0 HOURS", x.year(3, 0, 20), 0);
        DUE.is("no SLIPS", DUE.glass(from(200)).year(1, 200, 20), 20);
        DUE.is("no SLIPS", DUE.glass(from(201)).year(1, 200, 20), 0);
        DUE.is("the text's SEED stays", x.count(12), 1);
        for (int seed = 0; seed < 20; seed++) {
            text = "person a 0 0;person b 3 0;doing d a 1 4 3;drifts=if 8<mood then 0 else mood+which;slips 30;seed ";
            x = DUE.glass(text + (500 + seed) + ";");
            DUE.is("one SEED alone is IN n HOURS", x.year(x.markIn(200), 200, 1), 1);
        }
        DUE.about("promise 34: NONE: no such ones");
        for (int s : new int[] {0, -1, 21, LEAST, GREATEST}) {
            DUE.is("s " + s, x.year(0, 0, s), -1);
        }
        for (int n : new int[] {-1, 201, LEAST, GREATEST}) {
            DUE.is("n " + n, x.year(0, n, 1), -1);
        }
        for (int mark : new int[] {-1, 12, LEAST, GREATEST}) {
            DUE.is("mark " + mark, x.year(mark, 0, 1), -1);
        }
    }

    private static void tellEdges() {
        DUE.about("promise 35: NONE, and nothing happens: 20 are there, no such ones");
        FamilyGlass x = DUE.glass(Due.people(5));
        int[] before = Due.seen(x);
        for (int i : new int[] {-1, 25, LEAST, GREATEST}) {
            DUE.is("i " + i, x.tell(i, 0, true), -1);
        }
        for (int v : new int[] {-1, 12, LEAST, GREATEST}) {
            DUE.is("v " + v, x.tell(0, v, false), -1);
        }
        DUE.alike("nothing happens", Due.seen(x), before);
        DUE.is("nothing happens", x.fits(1, 0, 0), -1);
        int[] hours = {0, 24};
        int[] marks = {0, 11};
        for (int n = 0; n < 20; n++) {
            DUE.is("number", x.tell(hours[n % 2], marks[n / 2 % 2], n < 10), n);
            DUE.is("how many", x.count(10), n + 1);
        }
        DUE.is("the 21st", x.tell(0, 0, true), -1);
        DUE.is("how many", x.count(10), 20);
        DUE.is("KNOWN by 20", x.fits(20, 0, 0), 0);
        DUE.is("KNOWN by 21", x.fits(21, 0, 0), -1);
        DUE.is("by nobody", new FamilyGlass().tell(24, 11, false), 0);
    }

    private static void forgetEdges() {
        DUE.about("promise 36: how many there were");
        FamilyGlass x = DUE.glass(Due.people(5));
        DUE.is("none", x.forget(), 0);
        x.tell(0, 6, true);
        DUE.is("one", x.forget(), 1);
        DUE.is("none", x.forget(), 0);
        DUE.is("none is KNOWN", x.fits(1, 0, 0), -1);
        DUE.is("none is KNOWN", x.look(1, 0, 0), -1);
        DUE.is("numbered from 0 on", x.tell(0, 3, true), 0);
        DUE.is("not what was forgotten", x.fits(1, 0, 1), 3);
        for (int n = 1; n < 20; n++) {
            x.tell(0, 0, true);
        }
        DUE.is("twenty", x.forget(), 20);
        DUE.is("room again", x.tell(0, 0, true), 0);
    }

    private static void isFits(FamilyGlass x, int k, int person, int many, int least) {
        DUE.is("fits " + k + " " + person + ": many", x.fits(k, person, 0), many);
        DUE.is("fits " + k + " " + person + ": least", x.fits(k, person, 1), least);
    }

    private static void fitsEdges() {
        DUE.about("promise 37: numbers 0 .. 20 of which all that is KNOWN would be so");
        FamilyGlass x = DUE.glass("person a 5 0;needle=sum/2;");
        isFits(x, 0, 0, 21, 0);
        x.tell(0, 0, true);
        isFits(x, 1, 0, 21, 0);
        x.tell(0, 11, false);
        isFits(x, 2, 0, 21, 0);
        x.tell(0, 10, true);
        isFits(x, 3, 0, 1, 20);
        x.forget();
        x.tell(0, 1, false);
        isFits(x, 1, 0, 2, 0);
        x.tell(0, 0, false);
        isFits(x, 2, 0, 0, -2);
        x.forget();
        x.tell(0, 11, true);
        isFits(x, 1, 0, 0, -2);
        DUE.about("promise 37: v or more");
        x = DUE.glass("person a 5 0;needle=sum/2;");
        x.tell(0, 4, true);
        isFits(x, 1, 0, 13, 8);
        x.tell(0, 5, false);
        isFits(x, 2, 0, 2, 8);
        DUE.about("promise 37: behind i HOURS (0 .. 24, without SLIPS)");
        x = DUE.glass("person a 5 0;needle=hour+1;slips 100;");
        x.tell(24, 2, false);
        isFits(x, 1, 0, 21, 0);
        x.tell(23, 2, false);
        isFits(x, 2, 0, 21, 0);
        x.tell(22, 11, true);
        isFits(x, 3, 0, 21, 0);
        x.tell(0, 1, true);
        isFits(x, 4, 0, 21, 0);
        x.tell(0, 2, true);
        isFits(x, 5, 0, 0, -2);
        DUE.about("promise 37: NONE: no such ones");
        for (int k : new int[] {-1, 6, 20, 21, LEAST, GREATEST}) {
            isFits(x, k, 0, -1, -1);
        }
        for (int person : new int[] {-1, 1, 5, LEAST, GREATEST}) {
            isFits(x, 0, person, -1, -1);
        }
        for (int what : new int[] {-1, 2, LEAST, GREATEST}) {
            DUE.is("what " + what, x.fits(0, 0, what), -1);
            DUE.is("what " + what, x.fits(5, 0, what), -1);
        }
        isFits(new FamilyGlass(), 0, 0, -1, -1);
    }

    private static void fitsNow() {
        DUE.about("promise 37: were theirs so now");
        FamilyGlass x = DUE.glass(Due.people(1, 2, 3, 0, 5));
        x.tell(0, 11, true);
        // 11 are so, and 23
        isFits(x, 1, 0, 2, 1);
        isFits(x, 1, 4, 2, 5);
        isFits(x, 1, 3, 2, 0);
        x.tap();
        isFits(x, 1, 3, 1, 11);
        x.cheer(0, true);
        isFits(x, 1, 3, 1, 10);
        x.let();
        x.hours(5);
        isFits(x, 1, 3, 1, 11);
        DUE.is("what is TOLD stays", x.count(10), 1);
        x.hold(0);
        x.restore(0);
        x.undo();
        DUE.is("what is TOLD stays", x.count(10), 1);
    }

    private static void lookEdges() {
        DUE.about("promise 38: the i (0 .. 24)");
        // the MARK tells of the second one's MOOD in one hour of the day alone
        for (int hour = 0; hour <= 24; hour++) {
            FamilyGlass x = DUE.glass("person b 0 0;person a 0 0;jumps=0;needle=if hour<" + hour % 24 + " then 0 else if hour<"
                    + (hour % 24 + 1) + " then sum/10 else 0;");
            x.hours(hour == 24 ? 0 : 1);
            int due = hour == 24 ? 0 : (hour + 23) % 24;
            DUE.is("hour " + hour, x.look(0, 1, 1), due);
        }
        DUE.is("24 alone", DUE.glass("person a 0 0;person b 0 0;drifts=if which<1 then mood else if hour<23 then 0 else 20;"
                + "needle=if most<20 then 0 else (sum-20)/11;").look(0, 0, 1), 24);
        DUE.about("promise 38: of alike ones the first");
        DUE.is("v 0: all at all times", DUE.glass(Due.people(3)).look(0, 0, 0), 0);
        DUE.is("v 11: none at any time", DUE.glass("person a 3 0;needle=0;").look(0, 0, 11), 0);
        DUE.about("promise 38: -2: none is left; NONE: no such ones");
        FamilyGlass x = DUE.glass("person a 5 0;needle=sum/2;");
        x.tell(0, 11, true);
        DUE.is("none is left", x.look(1, 0, 5), -2);
        DUE.is("KNOWN by 0", x.look(0, 0, 5), 0);
        for (int k : new int[] {-1, 2, 20, 21, LEAST, GREATEST}) {
            DUE.is("k " + k, x.look(k, 0, 5), -1);
        }
        for (int person : new int[] {-1, 1, 5, LEAST, GREATEST}) {
            DUE.is("person " + person, x.look(0, person, 5), -1);
            DUE.is("person " + person, x.look(1, person, 5), -1);
        }
        for (int v : new int[] {-1, 12, LEAST, GREATEST}) {
            DUE.is("v " + v, x.look(0, 0, v), -1);
            DUE.is("v " + v, x.look(1, 0, v), -1);
        }
        DUE.is("nobody", new FamilyGlass().look(0, 0, 0), -1);
        x.forget();
        x.tell(0, 10, true);
        DUE.is("one is left", x.look(1, 0, 11), 0);
        for (String out : new String[] {"if sum<0 then 1 else 0", "if 20<sum then 1 else 0"}) {
            x = DUE.glass("person a 5 0;needle=" + out + ";");
            x.tell(0, 1, true);
            DUE.is("no MOOD but 0 .. 20 is left", x.look(1, 0, 1), -2);
            isFits(x, 1, 0, 0, -2);
        }
    }

    private static void lookAtWorst() {
        DUE.about("promise 38: fewest are left, at worst");
        // behind 0 HOURS 20 is 1 or more, behind 1 those from 15 on, behind 2 those from 10 on, behind 3 those from 5 on
        String text = "person a 7 0;jumps=0;drifts=mood;needle=if hour<1 then sum/20 else if hour<2 then sum/15"
                + " else if hour<3 then sum/10 else if hour<4 then sum/5 else 0;";
        FamilyGlass x = DUE.glass(text);
        DUE.is("10 and 11 of 21", x.look(0, 0, 1), 2);
        x.tell(2, 1, true);
        DUE.is("6 and 5 of 11", x.look(1, 0, 1), 1);
        x.tell(1, 1, true);
        DUE.is("1 and 5 of 6", x.look(2, 0, 1), 0);
        x.tell(0, 1, true);
        DUE.is("one is left", x.look(3, 0, 1), 0);
        x.forget();
        x.tell(2, 1, false);
        DUE.is("5 and 5 of 10", x.look(1, 0, 1), 3);
        x.tell(3, 1, false);
        DUE.is("all alike", x.look(2, 0, 1), 0);
        DUE.is("v 2: 20 behind 3 is 4", x.look(0, 0, 2), 3);
        DUE.about("promise 38: nothing is told by it");
        DUE.is("told", x.count(10), 2);
    }

    private static void noneAheadOfNot() {
        DUE.about("where NONE and -2 could both be told, it is NONE");
        FamilyGlass x = new FamilyGlass();
        DUE.is("round", x.round(2), -1);
        DUE.is("busiest n", x.busiest(201, 0), -1);
        DUE.is("busiest what", x.busiest(0, 2), -1);
        DUE.is("coax mark", x.coax(12, 0, 0), -1);
        DUE.is("coax n", x.coax(0, 61, 0), -1);
        DUE.is("coax what", x.coax(0, 0, 3), -1);
        DUE.is("changed mark", x.changed(12, 0), -1);
        DUE.is("changed n", x.changed(0, 61), -1);
        DUE.is("gloomiest", x.gloomiest(2), -1);
        DUE.is("parts v", x.parts(101, 1), -1);
        DUE.is("parts what", x.parts(1, 2), -1);
        DUE.is("pairs", x.pairs(0), -1);
        DUE.is("fits", x.fits(0, 0, 1), -1);
        DUE.is("look", x.look(0, 0, 0), -1);
        x = DUE.glass("person a 3 0;needle=4;");
        x.tell(0, 0, false);
        DUE.is("fits what", x.fits(1, 0, 2), -1);
        DUE.is("look v", x.look(1, 0, 12), -1);
        DUE.is("tapping n", x.tapping(5, 61), -1);
        DUE.is("forbids what", x.forbids(4, 1, 2), -1);
        DUE.is("forbids n", x.forbids(4, 0, 0), -1);
        DUE.is("pairs of one alone", x.pairs(1), -1);
    }

    /** Answers of a glass with SLIPS in each HOUR are those of one without, but for IN n HOURS and YEAR. */
    private static void noSlips() {
        DUE.about("no SLIPS but in IN n HOURS and YEAR");
        String text = "person a 3 2;person b 7 1;doing d a 2 5 3;doing e b 8 11 4;doing f a 0 1 2;"
                + "drifts=if 9<mood then mood-7 else mood+which;jumps=2;";
        FamilyGlass x = DUE.glass(text);
        FamilyGlass y = DUE.glass(text + "slips 100;");
        for (int mark = 0; mark < 12; mark++) {
            DUE.is("comes", y.comes(mark), x.comes(mark));
            DUE.is("often", y.often(mark, 200), x.often(mark, 200));
            DUE.is("tapping", y.tapping(mark, 60), x.tapping(mark, 60));
            DUE.is("forbids", y.forbids(mark, 3, 1), x.forbids(mark, 3, 1));
            DUE.is("coax", y.coax(mark, 7, 2), x.coax(mark, 7, 2));
            DUE.is("changed", y.changed(mark, 7), x.changed(mark, 7));
            DUE.is("look", y.look(0, 0, mark), x.look(0, 0, mark));
            x.tell(mark, mark, false);
            y.tell(mark, mark, false);
            DUE.is("fits", y.fits(mark + 1, 0, 0), x.fits(mark + 1, 0, 0));
        }
        DUE.is("round", y.round(0), x.round(0));
        DUE.is("round", y.round(1), x.round(1));
        DUE.is("settles", y.settles(), x.settles());
        DUE.is("itself", y.itself(), x.itself());
        DUE.is("quiet", y.quiet(200), x.quiet(200));
        DUE.is("busiest", y.busiest(200, 1), x.busiest(200, 1));
        DUE.is("worth", y.worth(0, 60), x.worth(0, 60));
        DUE.is("highest", y.highest(60, 1), x.highest(60, 1));
        DUE.is("game", y.game(3, 0), x.game(3, 0));
        boolean alike = true;
        for (int n = 0; n <= 9; n++) {
            alike &= y.markIn(n) == x.markIn(n) && y.year(x.markIn(n), n, 1) == 1;
        }
        DUE.is("HOURS that go by, though", alike, false);
    }
}
