/** What the tests share: texts fed, answers compared. */
final class Due {
    private int wrong = 0;
    private String about = "";

    void about(String about) {
        this.about = about;
    }

    void is(String call, long got, long want) {
        if (got != want) {
            wrong++;
            System.out.println(about + ": " + call + " answered " + got + ", due is " + want);
        }
    }

    void is(String call, boolean got, boolean want) {
        is(call, got ? 1 : 0, want ? 1 : 0);
    }

    void end() {
        System.out.println(wrong == 0 ? "all answers are as due" : wrong + " answers are not as due");
        if (wrong != 0) {
            System.exit(1);
        }
    }

    /** Feeds a text of signs 0 .. 255, the blanks that fill up the last twenty bytes taken back. */
    static void feed(FamilyGlass x, String text) {
        for (int from = 0; from < text.length(); from += 20) {
            int[] five = new int[5];
            for (int i = 0; i < 20; i++) {
                int sign = from + i < text.length() ? text.charAt(from + i) : ' ';
                five[i / 4] = five[i / 4] << 8 | sign;
            }
            x.feed(five[0], five[1], five[2], five[3], five[4]);
        }
        x.back((20 - text.length() % 20) % 20);
    }

    FamilyGlass glass(String text) {
        FamilyGlass x = new FamilyGlass();
        feed(x, text);
        is("read of " + text, x.read(), 0);
        return x;
    }

    /** Each next call on a new object is to find a FAULT. */
    void fault(String text, int number, int place) {
        FamilyGlass x = new FamilyGlass();
        feed(x, text);
        is("read of " + text, x.read(), number);
        is("place of " + text, x.place(), place);
    }
}
