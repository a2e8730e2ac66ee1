/** Promises 1 to 5: a new object, the tape, texts and their FAULTS, reckoned by hand. */
public final class TextTest {
    private static final Due DUE = new Due();

    public static void main(String[] args) {
        promise1();
        promise2();
        promise3();
        promise4();
        promise5();
        syntax();
        room();
        roomForTokens();
        laterFaults();
        lawsOfText();
        DUE.end();
    }

    private static String times(String text, int n) {
        return text.repeat(n);
    }

    private static void promise1() {
        DUE.about("promise 1");
        FamilyGlass x = new FamilyGlass();
        int[] counts = {0, 0, 0, 0, 0, 0, 0, 0, 0, 0, 0, 0, 0, 1, 0, 0, 0};
        for (int what = 0; what < counts.length; what++) {
            DUE.is("count " + what, x.count(what), counts[what]);
        }
        DUE.is("person", x.person(0, 0), -1);
        DUE.is("doing", x.doing(0, 0), -1);
        DUE.is("NONE", FamilyGlass.NONE, -1);
    }

    private static void promise2() {
        DUE.about("promise 2");
        FamilyGlass x = new FamilyGlass();
        for (int i = 1; i <= 100; i++) {
            DUE.is("feed", x.feed(0x20202020, 0x20202020, 0x20202020, 0x20202020, 0x20202020), 20 * i);
        }
        DUE.is("feed too much", x.feed(0, 0, 0, 0, 0), -1);
        DUE.is("bytes", x.count(8), 2000);
        x.back(19);
        DUE.is("feed one byte too much", x.feed(0, 0, 0, 0, 0), -1);
        x.back(1);
        DUE.is("feed just enough", x.feed(0x20202020, 0x20202020, 0x20202020, 0x20202020, 0x20202020), 2000);
        DUE.is("read of blanks", x.read(), 0);
        // the highest byte of the first comes first: "slips 1;slips 2 ; \n\t\r"
        DUE.is("feed", x.feed(0x736c6970, 0x7320313b, 0x736c6970, 0x73203220, 0x3b0a090d), 20);
        DUE.is("read", x.read(), 0);
        x.feed(0x73807320, 0, 0, 0, 0);
        DUE.is("read of a high byte", x.read(), 1);
        DUE.is("place of a NAME with which no text goes on", x.place(), 0);
        x.feed(0x20ff7320, 0, 0, 0, 0);
        DUE.is("read of a high byte", x.read(), 1);
        DUE.is("place of a high byte", x.place(), 1);
    }

    private static void promise3() {
        DUE.about("promise 3");
        FamilyGlass x = new FamilyGlass();
        DUE.is("back 0", x.back(0), 0);
        DUE.is("back 1", x.back(1), -1);
        x.feed(0x736c6970, 0x7320313b, 0x20202020, 0x20202020, 0x20202078);
        DUE.is("back -1", x.back(-1), -1);
        DUE.is("back 21", x.back(21), -1);
        DUE.is("back far", x.back(Integer.MAX_VALUE), -1);
        DUE.is("back least", x.back(Integer.MIN_VALUE), -1);
        DUE.is("bytes", x.count(8), 20);
        DUE.is("back 1", x.back(1), 19);
        DUE.is("read", x.read(), 0);
        x.feed(0, 0, 0, 0, 0);
        DUE.is("back all", x.back(20), 0);
        DUE.is("read", x.read(), 0);
    }

    private static void promise4() {
        DUE.about("promise 4");
        FamilyGlass x = DUE.glass("person a 4 2; person b 5 3; doing d b 0 11 2; jumps = 3;");
        x.tap();
        x.forbid(0, true);
        x.hours(2);
        x.hold(1);
        x.tell(0, 3, true);
        Due.feed(x, "person c 1 1; person");
        DUE.is("read of a text with a FAULT", x.read(), 1);
        DUE.is("bytes", x.count(8), 0);
        DUE.is("people", x.count(0), 2);
        DUE.is("hour", x.count(2), 2);
        DUE.is("taps", x.count(5), 1);
        DUE.is("forbidden", x.count(6), 1);
        DUE.is("undo", x.count(9), 3);
        DUE.is("told", x.count(10), 1);
        DUE.is("slots", x.count(11), 1);
        DUE.is("jumps", x.count(13), 3);
        DUE.is("restore", x.restore(1), true);
        x.tap();
        Due.feed(x, "person c 1 1;");
        DUE.is("read", x.read(), 0);
        int[] counts = {1, 0, 0, 1, 1, 0, 0, 0, 0, 0, 0, 0, 0, 1, 0, 0, 0};
        for (int what = 0; what < counts.length; what++) {
            DUE.is("count " + what, x.count(what), counts[what]);
        }
        DUE.is("undo", x.undo(), false);
        DUE.is("restore", x.restore(1), false);
        DUE.is("read of an empty tape", x.read(), 0);
        DUE.is("people", x.count(0), 0);
    }

    private static void promise5() {
        DUE.about("promise 5");
        FamilyGlass x = new FamilyGlass();
        DUE.is("place ahead of all", x.place(), -1);
        Due.feed(x, "  x");
        x.read();
        DUE.is("place", x.place(), 2);
        Due.feed(x, "seed 1;");
        DUE.is("place until the next read", x.place(), 2);
        x.read();
        DUE.is("place without a FAULT", x.place(), -1);
    }

    private static void syntax() {
        DUE.about("SYNTAX");
        DUE.fault("person p 1 2", 1, 12);
        DUE.fault("person p 1 2 \n", 1, 14);
        DUE.fault("person mood 1 2;", 1, 7);
        DUE.fault("person abcdefgh 1 2;", 0, -1);
        DUE.fault("person abcdefghi 1 2;", 1, 7);
        DUE.fault("person zzzzzzzz 1 2;person azyz 0 0;", 0, -1);
        DUE.fault("person zzzzzzzzz 1 2;", 1, 7);
        DUE.fault("person\ta\n1\r2;person b1 2;", 0, -1);
        DUE.fault("person A 1 2;", 1, 7);
        DUE.fault("person a 0001 2;", 0, -1);
        DUE.fault("person a 00001 2;", 1, 9);
        DUE.fault("person a 1 2.", 1, 12);
        DUE.fault("person a 1\0002;", 1, 10);
        DUE.fault("person a 1\0132;", 1, 10);
        DUE.fault("personp 1 2;", 1, 0);
        DUE.fault(";", 1, 0);
        DUE.fault("doing d 1", 1, 8);
        DUE.fault("slips = 1;", 1, 6);
        DUE.fault("needle 1;", 1, 7);
        DUE.fault("needle = ;", 1, 9);
        DUE.fault("needle = 1 2;", 1, 11);
        DUE.fault("needle = 1 < 2;", 1, 11);
        DUE.fault("needle = -1;", 1, 9);
        DUE.fault("needle = (if 1 < 2 then 3 else 4);", 1, 10);
        DUE.fault("needle = if 1 then 3 else 4;", 1, 14);
        DUE.fault("needle = if 1 < 2 then if 1 < 2 then 3 else 4;", 1, 23);
        DUE.fault("needle = if 1 < 2 then 3;", 1, 24);
        DUE.fault("needle = if 1 < 2 < 3 then 3 else 4;", 1, 18);
        DUE.fault("needle = (1 + 2;", 1, 15);
        DUE.fault("needle = 1 + 2);", 1, 14);
        DUE.fault("needle = ();", 1, 10);
        DUE.fault("needle = 1 + * 2;", 1, 13);
        DUE.fault("needle = person;", 1, 9);
        DUE.fault("needle = bob;", 1, 9);
        DUE.fault("needle = sum + mood * sway / (mark - hour) + taps + which * much - most;", 0, -1);
        DUE.fault("needle=if 1<2 then 3else 4;", 0, -1);
    }

    private static void room() {
        DUE.about("ROOM");
        String five = "person a 0 0;person b 0 0;person c 0 0;person d 0 0;person e 0 0;";
        DUE.fault(five, 0, -1);
        DUE.fault(five + "person f 0 0;", 2, 65);
        DUE.fault(five + " person 9", 2, 66);
        DUE.fault("person a 0 0 0;" + five + "person f 0 0;", 1, 13);
        String six = "person a 0 0;" + times("doing ", 0);
        for (char name = 'b'; name < 'h'; name++) {
            six += "doing " + name + " a 0 0 0;";
        }
        DUE.fault(six, 0, -1);
        DUE.fault(six + "doing", 2, six.length());
        String one = "if 1 < 2 then 3 else ";
        DUE.fault("needle = " + times(one, 4) + "5;", 0, -1);
        DUE.fault("needle = " + times(one, 5) + "5;", 2, 9 + 4 * one.length());
        DUE.fault("needle = " + times(one, 4) + "5;jumps = " + times(one, 4) + "5;", 0, -1);
        DUE.fault("needle = ((((((1))))));", 0, -1);
        DUE.fault("needle = (((((((1)))))));", 2, 15);
        DUE.fault("needle = ((((((1)))))) + ((((((2))))));", 0, -1);
        DUE.fault("needle = (1 + (2 * (3 - (4 + (5 + (6))))) + ((7 + (8 + (9))));", 1, 61);
        // of FAULTS of these two sorts the first by its place, whatever the number
        DUE.fault("needle = (((((((1;", 2, 15);
        DUE.fault(five + "person f 0 0; slips", 2, 65);
        DUE.fault("slips; " + five + "person f 0 0;", 1, 5);
    }

    private static void roomForTokens() {
        DUE.about("ROOM for TOKENS");
        String all = times("slips 1;", 132) + "jumps=1;";
        DUE.fault(all, 0, -1);
        DUE.fault(all + " ", 0, -1);
        DUE.fault(all + "seed", 2, all.length());
        DUE.fault(all + "x", 1, all.length());
        DUE.fault(all + "?", 1, all.length());
        DUE.fault(times("slips 1;", 133) + "seed", 1, 133 * 8 + 4);
        DUE.fault(times("slips 1;", 133) + "seed 1;", 2, 133 * 8 + 5);
        DUE.fault("jumps=1" + times("+1", 198) + ";", 0, -1);
        DUE.fault("jumps=1" + times("+1", 199) + ";", 2, 7 + 2 * 198 + 1);
        FamilyGlass x = DUE.glass("jumps=0" + times("+1", 11) + times("*1", 187) + ";");
        DUE.is("jumps", x.count(13), 11);
    }

    private static void laterFaults() {
        DUE.about("TWICE, NAME, WRONG");
        DUE.fault("person a 1 1;person a 1 1;", 3, 20);
        DUE.fault("person a 1 1;doing a a 1 1 1;", 3, 19);
        DUE.fault("person a 1 1;doing d a 1 1 1;doing d a 1 1 1;", 3, 35);
        DUE.fault("person a 1 1;doing d a 1 1 1;person d 1 1;", 3, 36);
        DUE.fault("doing d a 1 1 1;person a 1 1;", 4, 8);
        DUE.fault("person a 1 1;doing d b 1 1 1;", 4, 21);
        DUE.fault("person a 1 1;doing d a 1 1 1;doing e d 1 1 1;", 4, 37);
        DUE.fault("person a 20 9;", 0, -1);
        DUE.fault("person a 21 9;", 5, 9);
        DUE.fault("person a 20 10;", 5, 12);
        DUE.fault("person a 1 1;doing d a 11 11 20;", 0, -1);
        DUE.fault("person a 1 1;doing d a 12 11 20;", 5, 23);
        DUE.fault("person a 1 1;doing d a 11 12 20;", 5, 26);
        DUE.fault("person a 1 1;doing d a 11 0 21;", 5, 28);
        DUE.fault("slips 100;seed 9999;", 0, -1);
        DUE.fault("slips 101;", 5, 6);
        DUE.fault("person a 1 1;person aa 1 1;person b 1 1;person bb 1 1;person ab 1 1;doing ba aa 1 1 1;", 0, -1);
        DUE.fault("person b 1 1;doing bb b 1 1 1;doing a aa 1 1 1;", 4, 38);
        DUE.fault("person abcdefgh 1 1;person abcdefgi 1 1;person bbcdefgh 1 1;person abcdefgh 1 1;", 3, 67);
        // of these the first by its place; SYNTAX and ROOM ahead of them all
        DUE.fault("person a 21 1;person a 1 1;", 5, 9);
        DUE.fault("person a 1 1;person a 21 1;", 3, 20);
        DUE.fault("person a 21 1;person a 1 1;x", 1, 27);
        DUE.fault("slips 101;jumps=(((((((1)))))));", 2, 22);
        DUE.fault("slips 1;slips 2;seed 3;seed 4;needle=1;needle=2;", 0, -1);
    }

    private static void lawsOfText() {
        DUE.about("the last LAW");
        FamilyGlass x = DUE.glass("person a 3 1;needle=5;needle=sum+4;jumps=2;jumps=7;slips 100;slips 0;");
        DUE.is("mark", x.mark(), 7);
        DUE.is("jumps", x.count(13), 7);
        DUE.is("slip", x.count(12), 0);
        Due.feed(x, "person a 3 1;");
        x.read();
        DUE.is("mark, no LAW told", x.mark(), 3);
        DUE.is("jumps, no LAW told", x.count(13), 1);
    }
}
