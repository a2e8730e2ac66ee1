/** What the tests share: texts fed, answers compared. */
final class Due {
    private int wrong = 0;
    private String about = "";

    void about(String about) {
        this.about = about;
    }

    void is(String call, long got, long want) {
        if (got != want) {
            wrong++;
            String shown = call.length() > 200 ? call.substring(0, 200) + " .. (" + call.length() + " signs)" : call;
            System.out.println(about + ": " + shown + " answered " + got + ", due is " + want);
        }
    }

    void is(String call, boolean got, boolean want) {
        is(call, got ? 1 : 0, want ? 1 : 0);
    }

    void end() {
        System.out.println(wrong == 0 ? "all answers are as due" : wrong + " answers are not as due");
        if (wrong != 0) {
            System.exit(1);
        }
    }

    /** Feeds a text of signs 0 .. 255, the blanks that fill up the last twenty bytes taken back. */
    static void feed(FamilyGlass x, String text) {
        for (int from = 0; from < text.length(); from += 20) {
            int[] five = new int[5];
            for (int i = 0; i < 20; i++) {
                int sign = from + i < text.length() ? text.charAt(from + i) : ' ';
                five[i / 4] = five[i / 4] << 8 | sign;
            }
            x.feed(five[0], five[1], five[2], five[3], five[4]);
        }
        x.back((20 - text.length() % 20) % 20);
    }

    FamilyGlass glass(String text) {
        FamilyGlass x = new FamilyGlass();
        feed(x, text);
        is("read of " + text, x.read(), 0);
        return x;
    }

    /** Each next call on a new object is to find a FAULT; number 0 and place -1: none. */
    void fault(String text, int number, int place) {
        FamilyGlass x = new FamilyGlass();
        feed(x, text);
        is("read of " + text, x.read(), number);
        is("place of " + text, x.place(), place);
    }

    /** A text that is read without a FAULT. */
    void fine(String text) {
        fault(text, 0, -1);
    }

    /** All that an object tells of itself as it is, by calls that change nothing. */
    static int[] seen(FamilyGlass x) {
        int[] seen = new int[17 + 2 + 5 * 4 + 6 * 7];
        int at = 0;
        for (int what = 0; what < 17; what++) {
            seen[at++] = x.count(what);
        }
        seen[at++] = x.mark();
        seen[at++] = x.place();
        for (int person = 0; person < 5; person++) {
            for (int what = 0; what < 4; what++) {
                seen[at++] = x.person(person, what);
            }
        }
        for (int doing = 0; doing < 6; doing++) {
            for (int what = 0; what < 7; what++) {
                seen[at++] = x.doing(doing, what);
            }
        }
        return seen;
    }

    void alike(String call, int[] got, int[] want) {
        is(call + ": how much is seen", got.length, want.length);
        for (int i = 0; i < got.length && i < want.length; i++) {
            is(call + ": seen " + i, got[i], want[i]);
        }
    }

    /** A TELL for each mood: people a, b .. */
    static String people(int... moods) {
        StringBuilder text = new StringBuilder();
        for (int p = 0; p < moods.length; p++) {
            text.append("person ").append((char) ('a' + p)).append(' ').append(moods[p]).append(" 0;");
        }
        return text.toString();
    }
}
