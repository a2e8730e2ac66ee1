/** The edges of the text and its FAULTS, and of promises 1 to 5: a test for each sentence that names one. */
public final class TextEdgesTest {
    private static final Due DUE = new Due();
    private static final String FIVE = "person a 1 1;person b 1 1;person c 1 1;person d 1 1;person e 1 1;";
    private static final String SIX = "doing f a 1 1 1;doing g a 1 1 1;doing h a 1 1 1;doing i a 1 1 1;doing j a 1 1 1;"
            + "doing k a 1 1 1;";
    private static final String[] WORDS = {"person", "doing", "needle", "changes", "drifts", "jumps", "slips", "seed",
        "if", "then", "else", "sum", "mood", "sway", "mark", "hour", "taps", "which", "much", "most"};
    private static final String[] LAWS = {"needle", "changes", "drifts", "jumps"};

    public static void main(String[] args) {
        textOf2000Bytes();
        longestTokens();
        blanks();
        names();
        ints();
        signs();
        words();
        peopleAtMost();
        doingsAtMost();
        lawsNotTold();
        lastOnes();
        syntaxAtTheEnd();
        syntaxAtEachToken();
        ofOnePlaceTheLeast();
        tokensAtMost();
        ifsAtMost();
        openAtMost();
        twice();
        nameAhead();
        wrongNumbers();
        laterFaultsByPlace();
        faultChangesNothing();
        elseInPlaceOfTheOneAhead();
        nothingOfTheOnesAhead();
        newObject();
        feedEdges();
        backEdges();
        readEdges();
        placeEdges();
        DUE.end();
    }

    private static String filled(String head, int length, String tail) {
        return head + " ".repeat(length - head.length() - tail.length()) + tail;
    }

    private static void textOf2000Bytes() {
        DUE.about("a TEXT has 2,000 bytes at most");
        String full = filled("person a 7 1;", 2000, "needle=5;");
        DUE.fine(full);
        FamilyGlass x = DUE.glass(full);
        DUE.is("the first TELL", x.person(0, 0), 7);
        DUE.is("the last TELL", x.mark(), 5);
        DUE.fault(filled("person a 7 1;", 2000, "needle=5"), 1, 2000);
        DUE.fault(filled("person a 7 1;", 2000, "?"), 1, 1999);
        DUE.fine(" ".repeat(2000));
        DUE.fault("x".repeat(2000), 1, 0);
        DUE.fault("1".repeat(2000), 1, 0);
        DUE.fault("(".repeat(2000), 1, 0);
        DUE.fault("needle=" + "(".repeat(1993), 2, 13);
        DUE.fault("needle=1" + "+1".repeat(996), 2, 405);
        x = new FamilyGlass();
        Due.feed(x, full);
        DUE.is("bytes", x.count(8), 2000);
        DUE.is("none more", x.feed(0, 0, 0, 0, 0), -1);
        DUE.is("read", x.read(), 0);
        DUE.is("people", x.count(0), 1);
    }

    private static void longestTokens() {
        DUE.about("TOKENS, the longest that can be");
        DUE.fault("person ab 1 2", 1, 13);
        DUE.fault("person a b 1 2;", 1, 9);
        FamilyGlass x = DUE.glass("person a12 3;");
        DUE.is("a letter, then digits", x.person(0, 0), 12);
        DUE.is("a letter, then digits", x.person(0, 2), 3);
        DUE.fault("person a 123;", 1, 12);
        DUE.fault("person a 1 23;", 5, 11);
        DUE.fault("needles=1;", 1, 0);
        DUE.fault("needle=sums;", 1, 7);
        DUE.fault("needle=if1<2then3else4 5;", 1, 23);
        DUE.is("digits end words and words end digits", DUE.glass("needle=if1<2then3else4;").mark(), 3);
        DUE.fault("needle=if1<2thens3else4;", 1, 12);
        DUE.fault("needle=ifs1<2then3else4;", 1, 7);
        DUE.fault("slipss10;", 1, 0);
        DUE.is("seed7slips", DUE.glass("slips89;seed0;").count(12), 1);
    }

    private static boolean isBlank(int sign) {
        return sign == 9 || sign == 10 || sign == 13 || sign == 32;
    }

    private static void blanks() {
        DUE.about("blanks (9, 10, 13, 32) between or not");
        for (int sign = 0; sign < 256; sign++) {
            String text = "slips" + (char) sign + "7;";
            boolean letter = sign >= 'a' && sign <= 'z';
            boolean digit = sign >= '0' && sign <= '9';
            if (isBlank(sign) || digit) {
                DUE.fine(text);
            } else {
                DUE.fault(text, 1, letter ? 0 : 5);
            }
            if (isBlank(sign)) {
                DUE.fine((char) sign + "slips 7;" + (char) sign);
                DUE.fine("slips" + ("" + (char) sign).repeat(50) + "7" + (char) sign + ";");
                DUE.fault("slips 7" + (char) sign + "7;", 1, 8);
                DUE.fault("sl" + (char) sign + "ips 7;", 1, 0);
            }
        }
        DUE.fine("\t\n\r person\ta\n1\r1 ;\r\n");
        DUE.fine("needle=(sum+1)*2/3-4;");
        DUE.fine("needle = ( sum + 1 ) * 2 / 3 - 4 ; ");
    }

    private static void names() {
        DUE.about("NAMES (letters a .. z, 8 at most, none of the words in quotes)");
        for (int sign = 0; sign < 256; sign++) {
            boolean letter = sign >= 'a' && sign <= 'z';
            boolean digit = sign >= '0' && sign <= '9';
            if (!isBlank(sign)) {
                DUE.fault("person " + (char) sign + " 1 1;", letter ? 0 : 1, letter ? -1 : 7);
                // behind a letter: a letter more (an INT is lacking then), or the first digit of an INT
                DUE.fault("person n" + (char) sign + " 1;", digit ? 0 : 1, digit ? -1 : letter ? 11 : 8);
            }
        }
        DUE.fine("person a 1 1;");
        DUE.fine("person abcdefgh 1 1;doing zyxwvuts abcdefgh 1 1 1;");
        DUE.fault("person abcdefghi 1 1;", 1, 7);
        DUE.fault("person abcdefgh 1 1;doing zyxwvutsr abcdefgh 1 1 1;", 1, 26);
        DUE.fault("person abcdefgh 1 1;doing zyxwvuts abcdefghi 1 1 1;", 1, 35);
        DUE.fault("person " + "a".repeat(1900) + " 1 1;", 1, 7);
    }

    private static void ints() {
        DUE.about("INTS (1 to 4 digits)");
        DUE.fine("slips 7;");
        DUE.fine("slips 0007;");
        DUE.fault("slips 00007;", 1, 6);
        DUE.fine("seed 9999;");
        DUE.fault("seed 10000;", 1, 5);
        DUE.fault("seed " + "0".repeat(1900) + ";", 1, 5);
        DUE.fault("seed ;", 1, 5);
        DUE.is("0 .. 9999 in a LAW", DUE.glass("needle=0000+9999-9990;").mark(), 9);
        DUE.fault("needle=00000;", 1, 7);
        DUE.fault("needle=99999;", 1, 7);
        DUE.fault("seed -1;", 1, 5);
        DUE.fault("seed +1;", 1, 5);
        DUE.is("no octal", DUE.glass("needle=010;").mark(), 10);
    }

    private static void signs() {
        DUE.about("SIGNS ; = + - * / < ( )");
        for (int sign = 0; sign < 256; sign++) {
            String text = "needle=6" + (char) sign + "2;";
            if (sign == '+' || sign == '-' || sign == '*' || sign == '/') {
                int mark = sign == '+' ? 8 : sign == '-' ? 4 : sign == '*' ? 0 : 3;
                DUE.is("mark by " + (char) sign, DUE.glass(text).mark(), mark);
            } else if (sign >= '0' && sign <= '9') {
                DUE.is("mark by 6" + (char) sign + "2", DUE.glass(text).mark(), (602 + 10 * (sign - '0')) % 12);
            } else {
                // between two INTS a blank, and a TELL's end, are fine: what comes behind it is not
                DUE.fault(text, 1, isBlank(sign) || sign == ';' ? 9 : 8);
            }
        }
    }

    private static void words() {
        DUE.about("the words in quotes are no NAMES");
        for (String word : WORDS) {
            DUE.fault("person " + word + " 1 1;", 1, 7);
            DUE.fault("person a 1 1;doing " + word + " a 1 1 1;", 1, 19);
            DUE.fault("person a 1 1;doing d " + word + " 1 1 1;", 1, 21);
            if (word.length() < 8) {
                DUE.fine("person " + word + "x 1 1;");
            }
            DUE.fine("person " + word.substring(0, word.length() - 1) + " 1 1;");
            DUE.fine("person " + word.substring(1) + " 1 1;");
        }
    }

    private static void peopleAtMost() {
        DUE.about("PEOPLE, 5 at most");
        FamilyGlass x = DUE.glass(FIVE);
        DUE.is("people", x.count(0), 5);
        DUE.is("the fifth", x.person(4, 0), 1);
        DUE.is("no sixth", x.person(5, 0), -1);
        DUE.fault(FIVE + "person f 1 1;", 2, 65);
        DUE.fault(FIVE + "\n\nperson f 1 1;", 2, 67);
        DUE.fault(FIVE + "person", 2, 65);
        DUE.fault(FIVE + "person ?", 2, 65);
        DUE.fault(FIVE + SIX + "person a 1 1;", 2, 65 + SIX.length());
        DUE.about("MOOD 0 .. 20 at first, SWAY 0 .. 9");
        x = DUE.glass("person a 0 9;person b 20 0;");
        DUE.is("MOOD 0", x.person(0, 1), 0);
        DUE.is("SWAY 9", x.person(0, 2), 9);
        DUE.is("MOOD 20", x.person(1, 1), 20);
        DUE.is("SWAY 0", x.person(1, 2), 0);
        DUE.about("numbered each from 0 on as they stand");
        x = DUE.glass("person a 3 1;doing x a 1 2 3;person b 4 2;doing y b 4 5 6;");
        DUE.is("b", x.person(1, 0), 4);
        DUE.is("y whose", x.doing(1, 0), 1);
        DUE.is("x whose", x.doing(0, 0), 0);
    }

    private static void doingsAtMost() {
        DUE.about("DOINGS, 6 at most");
        FamilyGlass x = DUE.glass(FIVE + SIX);
        DUE.is("doings", x.count(1), 6);
        DUE.is("the sixth", x.doing(5, 3), 1);
        DUE.is("no seventh", x.doing(6, 3), -1);
        DUE.fault(FIVE + SIX + "doing l a 1 1 1;", 2, 65 + SIX.length());
        DUE.fault(FIVE + SIX + " doing", 2, 66 + SIX.length());
        DUE.fault("person a 1 1;" + SIX + "doing l a 1 1 1;", 2, 13 + SIX.length());
        DUE.about("MARKS 0 .. 11, MUCH 0 .. 20");
        x = DUE.glass("person a 1 1;doing d a 0 11 20;doing e a 11 0 0;");
        DUE.is("from 0", x.doing(0, 1), 0);
        DUE.is("to 11", x.doing(0, 2), 11);
        DUE.is("MUCH 20", x.doing(0, 3), 20);
        DUE.is("from 11", x.doing(1, 1), 11);
        DUE.is("to 0", x.doing(1, 2), 0);
        DUE.is("MUCH 0", x.doing(1, 3), 0);
    }

    private static void lawsNotTold() {
        DUE.about("LAWS if not told: NEEDLE (sum), CHANGES (mood and much, added), DRIFTS (mood), JUMPS (1)");
        String told = "person a 4 3;person b 3 2;doing d b 0 11 5;";
        for (String ahead : new String[] {"", told + "needle=0;changes=1;drifts=2;jumps=3;slips 100;seed 7;"}) {
            FamilyGlass x = new FamilyGlass();
            Due.feed(x, ahead);
            x.read();
            Due.feed(x, told);
            DUE.is("read", x.read(), 0);
            DUE.is("NEEDLE", x.mark(), 7);
            DUE.is("CHANGES", x.doing(0, 6), 8);
            DUE.is("DRIFTS", x.person(0, 3), 4);
            DUE.is("JUMPS", x.count(13), 1);
            DUE.is("SLIPS (0)", x.count(12), 0);
            // LOT 100 of SEED 0 in hour 283 is 0
            x.hours(200);
            x.hours(83);
            DUE.is("SLIPS (0)", x.count(12), 0);
            Due.feed(x, told + "slips 89;");
            x.read();
            // LOT 100 of SEED 0 in hour 0 is 88
            DUE.is("SEED (0)", x.count(12), 1);
            Due.feed(x, told + "slips 88;");
            x.read();
            DUE.is("SEED (0)", x.count(12), 0);
        }
    }

    private static void lastOnes() {
        DUE.about("the last one");
        FamilyGlass x = DUE.glass("person a 4 3;doing d a 1 1 5;needle=1;changes=2;drifts=3;jumps=4;"
                + "needle=if 1<2 then 5 else 1/0;changes=6;drifts=7;jumps=8;");
        DUE.is("NEEDLE", x.mark(), 5);
        DUE.is("CHANGES", x.doing(0, 6), 6);
        DUE.is("DRIFTS", x.person(0, 3), 7);
        DUE.is("JUMPS", x.count(13), 8);
        x = DUE.glass("person a 4 3;needle=if 1<2 then 5 else 1/0;needle=sum;");
        DUE.is("a shorter one behind a longer one", x.mark(), 4);
        // LOT 100 of SEED 1234 in hour 0 is 39, of SEED 0 88
        DUE.is("SLIPS", DUE.glass("slips 100;slips 0;").count(12), 0);
        DUE.is("SLIPS", DUE.glass("slips 0;slips 100;").count(12), 1);
        DUE.is("SEED", DUE.glass("slips 40;seed 0;seed 1234;").count(12), 1);
        DUE.is("SEED", DUE.glass("slips 40;seed 1234;seed 0;").count(12), 0);
        DUE.is("a LAW ahead of PEOPLE", DUE.glass("needle=sum+1;person a 4 3;").mark(), 5);
        DUE.is("a WRONG one told over", faultOf("slips 101;slips 0;"), 5);
    }

    private static int faultOf(String text) {
        FamilyGlass x = new FamilyGlass();
        Due.feed(x, text);
        return x.read();
    }

    private static void syntaxAtTheEnd() {
        DUE.about("the text's end: its length");
        String[] whole = {"person", "a", "1", "2", ";", "doing", "d", "a", "1", "2", "3", ";", "needle", "=", "if", "(", "sum",
            ")", "<", "2", "then", "3", "else", "4", "*", "5", "-", "6", ";", "slips", "7", ";", "seed", "8", ";"};
        StringBuilder text = new StringBuilder();
        for (String token : whole) {
            text.append(token);
            if (token.equals(";")) {
                DUE.fine(text.toString());
                DUE.fine(text + " \n");
            } else {
                DUE.fault(text.toString(), 1, text.length());
                DUE.fault(text + " \t\n", 1, text.length() + 3);
            }
            text.append(' ');
        }
    }

    /** Each TOKEN of a text in turn by another, with which no text goes on. */
    private static void syntaxAtEachToken() {
        DUE.about("a TOKEN, or what is none, with which no text goes on");
        String[] whole = {"person", "a", "1", "2", ";", "doing", "d", "a", "1", "2", "3", ";", "needle", "=", "if", "sum", "<",
            "2", "then", "3", "else", "4", ";", "slips", "7", ";", "seed", "8", ";"};
        for (int bad = 0; bad < whole.length; bad++) {
            StringBuilder text = new StringBuilder();
            int place = 0;
            for (int i = 0; i < whole.length; i++) {
                place = i == bad ? text.length() : place;
                text.append(i == bad ? "X" : whole[i]).append(' ');
            }
            DUE.fault(text.toString(), 1, place);
            DUE.fault(text.toString().replace("X", "abcdefghi"), 1, place);
            DUE.fault(text.toString().replace("X", "12345"), 1, place);
            DUE.fault(text.toString().replace("X", "."), 1, place);
            DUE.fault(text.toString().replace("X", ")"), 1, place);
        }
        DUE.fault("person a b 2;", 1, 9);
        DUE.fault("person 1 1 2;", 1, 7);
        DUE.fault("person a 1 2 3;", 1, 13);
        DUE.fault("person a 1 2;;", 1, 13);
        DUE.fault("slips sum;", 1, 6);
        DUE.fault("needle=1<2;", 1, 8);
        DUE.fault("needle=if 1<2 then 3 else;", 1, 25);
        DUE.fault("needle=(1<2);", 1, 9);
        DUE.fault("needle=if (1<2) then 3 else 4;", 1, 12);
        DUE.fault("needle=if 1<2 then if 1<2 then 3 else 4 else 5;", 1, 19);
        DUE.fault("needle=1+if 1<2 then 3 else 4;", 1, 9);
        DUE.fault("needle=1 2;", 1, 9);
        DUE.fault("needle=1(2);", 1, 8);
        DUE.fault("needle=(1)(2);", 1, 10);
        DUE.fault("needle=();", 1, 8);
        DUE.fault("needle=+1;", 1, 7);
        DUE.fault("needle=1+;", 1, 9);
        DUE.fault("needle=1*/2;", 1, 9);
        DUE.fault("needle=(1;", 1, 9);
        DUE.fault("needle=1);", 1, 8);
    }

    private static void ofOnePlaceTheLeast() {
        DUE.about("of one place the least");
        String four = "if 1<2 then 3 else ".repeat(4);
        String all = "slips 1;".repeat(133);
        // what would be one too many is nothing with which a text goes on
        DUE.fault(FIVE + "slips person", 1, 71);
        DUE.fault(FIVE + "person person", 2, 65);
        DUE.fault("person a 1 1;" + SIX + "seed doing", 1, 18 + SIX.length());
        DUE.fault("needle=" + four + "5 if", 1, 9 + four.length());
        DUE.fault("needle=" + four + "(if", 1, 8 + four.length());
        DUE.fault("needle=" + four + "if if", 2, 7 + four.length());
        DUE.fault("needle=((((((1(", 1, 14);
        DUE.fault("needle=(((((((", 2, 13);
        DUE.fault("needle=((((((sum(", 1, 16);
        DUE.fault(all + ";", 1, 1064);
        DUE.fault(all + "slips ;", 1, 1070);
        DUE.fault(all + "slips 1", 2, 1070);
        DUE.fault(all + "slips ?", 1, 1070);
        DUE.fault(all + "slips 12345", 1, 1070);
        DUE.about("the first by its place");
        DUE.fault("? (", 1, 0);
        DUE.fault("needle=(((((((1)))))));?", 2, 13);
        DUE.fault("needle=1?;needle=(((((((1)))))));", 1, 8);
        DUE.fault(FIVE + "person f 1 1;needle=(((((((1)))))));", 2, 65);
        DUE.fault("needle=(((((((1)))))));" + FIVE + "person f 1 1;", 2, 13);
        DUE.fault(FIVE + "person f 1 1;" + "slips 1;".repeat(200), 2, 65);
    }

    private static void tokensAtMost() {
        DUE.about("a 401st TOKEN");
        // each "slips 1;" has 3 TOKENS, "jumps=1;" has 4
        String all = "slips 1;".repeat(132) + "jumps=1;";
        DUE.fine(all);
        DUE.fine(all + " \t\r\n");
        DUE.fault(all + "person", 2, 1064);
        DUE.fault(all + "  seed 1;", 2, 1066);
        DUE.fault(all + "needle", 2, 1064);
        DUE.fault(all + ";", 1, 1064);
        DUE.fault("slips 1;".repeat(133) + "seed", 1, 1068);
        DUE.fault("slips 1;".repeat(133) + "seed 1;", 2, 1069);
        String law = "needle=if 0<1 then 1 else 1";
        DUE.fine(law + "+1".repeat(194) + ";");
        DUE.fault(law + "+1".repeat(195) + ";", 2, law.length() + 2 * 195);
        DUE.fault(law + "+1".repeat(196) + ";", 2, law.length() + 2 * 195);
        DUE.fault(law + "*1".repeat(400) + ";", 2, law.length() + 2 * 195);
        DUE.fault("slips 1;".repeat(132) + "jumps=(1);", 2, 132 * 8 + 8);
        DUE.fault("slips 1;".repeat(132) + "x=1;seed", 1, 132 * 8);
    }

    private static void ifsAtMost() {
        DUE.about("a 5th if of a LAW (at it)");
        String one = "if 2<1 then 3 else ";
        for (String law : LAWS) {
            DUE.fine(law + "=" + one.repeat(4) + "5;");
            DUE.fault(law + "=" + one.repeat(5) + "5;", 2, law.length() + 1 + 4 * one.length());
            DUE.fault(law + "=" + one.repeat(4) + "if", 2, law.length() + 1 + 4 * one.length());
            DUE.fine(law + "=" + one.repeat(4) + "5;" + law + "=" + one.repeat(4) + "5;");
        }
        DUE.is("the 4th if's", DUE.glass("needle=" + one.repeat(3) + "if 1<2 then 6 else 5;").mark(), 6);
        DUE.is("behind the 4th if", DUE.glass("needle=" + one.repeat(4) + "5;").mark(), 5);
    }

    private static void openAtMost() {
        DUE.about("a 7th ( within one another (at it)");
        String six = "((((((1))))))";
        String seven = "(((((((1)))))))";
        String[] laws = {"needle=X;", "needle=1+X;", "needle=1*X;", "needle=if X<1 then 2 else 3;", "needle=if 1<X then 2 else 3;",
            "needle=if 1<2 then X else 3;", "needle=if 1<2 then 3 else X;", "changes=X;", "drifts=X;", "jumps=X;"};
        for (String law : laws) {
            DUE.fine(law.replace("X", six));
            DUE.fault(law.replace("X", seven), 2, law.indexOf('X') + 6);
            DUE.fine(law.replace("X", six + "+" + six));
            DUE.fine(law.replace("X", six + "*" + six));
        }
        DUE.fine("needle=(((((1)+(2)))))*(((((1)+(2)))));");
        DUE.fault("needle=(((((1)+((2))))));needle=(((((1)+(((2)))))));", 2, 42);
    }

    private static void twice() {
        DUE.about("TWICE: a NAME told already (of PEOPLE and DOINGS together)");
        DUE.fault("person a 1 1;person a 1 1;", 3, 20);
        DUE.fault("person a 1 1;person b 1 1;person a 1 1;", 3, 33);
        DUE.fault("person a 1 1;doing a a 1 1 1;", 3, 19);
        DUE.fault("person a 1 1;doing d a 1 1 1;person d 1 1;", 3, 36);
        DUE.fault("person a 1 1;doing d a 1 1 1;doing d a 1 1 1;", 3, 35);
        DUE.fault(FIVE + SIX.replace("doing k", "doing j"), 3, 65 + 5 * 16 + 6);
        DUE.fault(FIVE + SIX.replace("doing k", "doing e"), 3, 65 + 5 * 16 + 6);
        DUE.fine("person a 1 1;person aa 1 1;person aaaaaaaa 1 1;");
        FamilyGlass x = DUE.glass("person a 1 1;doing d a 1 1 1;");
        Due.feed(x, "person d 1 1;doing a d 1 1 1;");
        DUE.is("told in the text ahead alone", x.read(), 0);
        Due.feed(x, "person e 1 1;person e 1 1;");
        DUE.is("told in this text", x.read(), 3);
        Due.feed(x, "person e 1 1;");
        DUE.is("told in a text with a FAULT alone", x.read(), 0);
    }

    private static void nameAhead() {
        DUE.about("NAME: (at it) no such PERSON told ahead");
        DUE.fault("doing d a 1 1 1;", 4, 8);
        DUE.fault("doing d a 1 1 1;person a 1 1;", 4, 8);
        DUE.fault("person a 1 1;doing d b 1 1 1;person b 1 1;", 4, 21);
        DUE.fault("person a 1 1;doing d d 1 1 1;", 4, 21);
        DUE.fault("person a 1 1;doing d a 1 1 1;doing e d 1 1 1;", 4, 37);
        DUE.fine(FIVE + SIX.replace("k a", "k e"));
        FamilyGlass x = DUE.glass("person a 1 1;");
        Due.feed(x, "doing d a 1 1 1;");
        DUE.is("told in the text ahead", x.read(), 4);
        DUE.about("a NAME told more than once is that of the first one");
        DUE.fault("person a 1 1;person a 2 2;doing d a 1 1 1;", 3, 20);
        DUE.fault("person a 1 1;doing d a 1 1 1;person d 1 1;doing e d 1 1 1;", 3, 36);
    }

    private static void wrongNumbers() {
        DUE.about("WRONG (at the INT)");
        String[] texts = {"person a X 9;", "person a 20 X;", "person a 1 1;doing d a X 11 20;", "person a 1 1;doing d a 11 X 20;",
            "person a 1 1;doing d a 11 11 X;", "slips X;", "seed X;"};
        int[] most = {20, 9, 11, 11, 20, 100, 9999};
        for (int i = 0; i < texts.length; i++) {
            int at = texts[i].indexOf('X');
            DUE.fine(texts[i].replace("X", "0"));
            DUE.fine(texts[i].replace("X", "" + most[i]));
            if (most[i] < 9999) {
                DUE.fault(texts[i].replace("X", "" + (most[i] + 1)), 5, at);
                DUE.fault(texts[i].replace("X", "9999"), 5, at);
            } else {
                DUE.fault(texts[i].replace("X", "" + (most[i] + 1)), 1, at);
            }
        }
        DUE.fault("person a 0021 9;", 5, 9);
        DUE.fine("needle=9999;changes=9999;drifts=9999;jumps=9999;");
    }

    private static void laterFaultsByPlace() {
        DUE.about("if there is none, likewise");
        DUE.fault("person a 21 10;", 5, 9);
        DUE.fault("person a 21 1;person a 1 1;doing d b 1 1 1;", 5, 9);
        DUE.fault("person a 1 1;person a 21 1;doing d b 1 1 1;", 3, 20);
        DUE.fault("doing d b 12 1 1;doing d b 1 1 1;", 4, 8);
        DUE.fault("person a 1 1;doing a b 12 1 1;", 3, 19);
        DUE.fault("person a 1 1;doing d b 12 1 1;", 4, 21);
        DUE.fault("slips 101;slips 101;person a 1 1;person a 1 1;", 5, 6);
        DUE.about("SYNTAX and ROOM ahead of the others, wherever they stand");
        DUE.fault("slips 101;person a 1 1;person a 1 1;doing d b 1 1 1;?", 1, 52);
        DUE.fault("slips 101;person a 1 1;person a 1 1;doing d b 1 1 1;seed", 1, 56);
        DUE.fault("slips 101;" + FIVE + "person a 1 1;", 2, 75);
        DUE.fault("slips 101;" + "seed 1;".repeat(132) + "jumps", 1, 10 + 132 * 7 + 5);
        DUE.fault("slips 101;" + "seed 1;".repeat(132) + "jumps=", 2, 10 + 132 * 7 + 5);
    }

    private static FamilyGlass lived() {
        FamilyGlass x = DUE.glass("person a 4 2;person b 5 3;doing d b 0 11 2;doing e a 3 5 1;jumps=3;slips 100;");
        x.tap();
        x.forbid(0, true);
        x.hours(2);
        x.hold(1);
        x.tell(0, 3, true);
        return x;
    }

    private static void faultChangesNothing() {
        DUE.about("a text with a FAULT changes nothing but the tape");
        String[] texts = {"person c 1 1;person", "person c 1 1;needle=(((((((1)))))));", "person c 1 1;person c 1 1;",
            "person c 1 1;doing f d 1 1 1;", "person c 21 1;needle=9;changes=9;drifts=9;jumps=9;slips 0;seed 9;"};
        for (int i = 0; i < texts.length; i++) {
            FamilyGlass x = lived();
            int[] before = Due.seen(x);
            Due.feed(x, texts[i]);
            DUE.is("read of " + texts[i], x.read(), i + 1);
            DUE.is("the tape is empty", x.count(8), 0);
            before[18] = x.place();
            DUE.alike("behind " + texts[i], Due.seen(x), before);
            DUE.is("KNOWN by 1", x.fits(1, 0, 0), lived().fits(1, 0, 0));
            DUE.is("undo hours", x.undo(), true);
            DUE.is("undo forbid", x.undo(), true);
            DUE.is("undo tap", x.undo(), true);
            DUE.is("nothing more", x.undo(), false);
            DUE.is("taps", x.count(5), 0);
            DUE.is("restore", x.restore(1), true);
            DUE.is("hour", x.count(2), 2);
        }
    }

    private static void elseInPlaceOfTheOneAhead() {
        DUE.about("else it is in place of the one ahead");
        for (String text : new String[] {"person c 7 1;", ""}) {
            FamilyGlass x = lived();
            Due.feed(x, text);
            DUE.is("read", x.read(), 0);
            DUE.alike("behind " + text, Due.seen(x), Due.seen(DUE.glass(text)));
            DUE.is("hour 0", x.count(2), 0);
            DUE.is("no taps", x.count(5), 0);
            DUE.is("nothing forbidden", x.count(6), 0);
            DUE.is("nothing can be undone", x.undo(), false);
            DUE.is("nothing is TOLD", x.fits(1, 0, 0), -1);
            DUE.is("nothing is TOLD", x.forget(), 0);
            for (int slot = 0; slot < 3; slot++) {
                DUE.is("SLOTS hold nothing", x.restore(slot), false);
            }
            DUE.is("SLOTS hold nothing", x.count(11), 0);
            DUE.is("MOOD at first", x.person(0, 0), text.isEmpty() ? -1 : 7);
        }
    }

    /** Whatever was read ahead, with a FAULT or without, and however often. */
    private static void nothingOfTheOnesAhead() {
        DUE.about("in place of the one ahead, and nothing is left of it");
        String laws = "";
        for (String law : LAWS) {
            laws += law + "=if 2<1 then 7 else if 1<2 then 8 else 9;";
        }
        String full = FIVE.replace("1 1", "20 9") + SIX.replace("1 1 1", "0 11 9") + laws + "slips 100;seed 1234;";
        String small = "person x 3 4;doing y x 3 3 2;";
        String[] ahead = {full, full + "?", full + "needle=(((((((1)))))));", full + "person a 1 1;", full + "person f 1 1;",
            full.replace(";slips 100", ";slips 101"), full.replace("doing k a", "doing k z"), full.replace("doing k a", "doing j a")};
        int[] wanted = Due.seen(DUE.glass(small));
        for (String one : ahead) {
            for (String two : ahead) {
                for (int times = 1; times <= 3; times++) {
                    FamilyGlass x = new FamilyGlass();
                    for (String text : new String[] {one, two}) {
                        Due.feed(x, text);
                        x.read();
                    }
                    for (int i = 0; i < times; i++) {
                        Due.feed(x, small);
                        DUE.is("read", x.read(), 0);
                    }
                    DUE.alike("behind the ones ahead", Due.seen(x), wanted);
                    DUE.is("an HOUR", x.hours(1), 1);
                    DUE.is("all MOODS, added", x.count(3), 5);
                    DUE.is("MARK", x.mark(), 5);
                }
            }
        }
        FamilyGlass x = DUE.glass(full);
        for (int i = 0; i < 100; i++) {
            Due.feed(x, small);
            DUE.is("read again and again", x.read(), 0);
            DUE.is("MARK", x.mark(), 3);
        }
        // LOT 100 of SEED 0 in hour 0 is 88, of SEED 1234 39
        x = DUE.glass(full);
        for (int i = 0; i < 3; i++) {
            Due.feed(x, small + "slips 88;");
            x.read();
            DUE.is("SEED 0", x.count(12), 0);
        }
    }

    private static void newObject() {
        DUE.about("promise 1: no PEOPLE, no DOINGS");
        FamilyGlass x = new FamilyGlass();
        DUE.alike("as of an empty text", Due.seen(x), Due.seen(DUE.glass("")));
        DUE.is("people", x.count(0), 0);
        DUE.is("doings", x.count(1), 0);
        DUE.is("nothing can be undone", x.undo(), false);
        DUE.is("nothing TOLD", x.forget(), 0);
        DUE.is("nothing held", x.restore(0), false);
        DUE.is("place", x.place(), -1);
        DUE.is("back", x.back(1), -1);
    }

    private static void feedEdges() {
        DUE.about("promise 2: the highest byte of a first");
        FamilyGlass x = new FamilyGlass();
        // "seed 1;seed 2;seed 3"
        DUE.is("feed", x.feed(0x73656564, 0x20313b73, 0x65656420, 0x323b7365, 0x65642033), 20);
        DUE.is("the end is lacking", x.read(), 1);
        DUE.is("place", x.place(), 20);
        for (int at = 0; at < 20; at++) {
            int[] five = {0x20202020, 0x20202020, 0x20202020, 0x20202020, 0x20202020};
            five[at / 4] ^= 0xdf << 24 - at % 4 * 8;
            x.feed(five[0], five[1], five[2], five[3], five[4]);
            x.read();
            DUE.is("byte 255 at " + at, x.place(), at);
        }
        DUE.about("promise 2: NONE, and nothing comes, if it would have more than 2,000");
        for (int bytes : new int[] {1981, 1990, 1999, 2000}) {
            x = new FamilyGlass();
            for (int i = 0; i < 100; i++) {
                x.feed(0x20202020, 0x20202020, 0x20202020, 0x20202020, 0x20202020);
            }
            x.back(2000 - bytes);
            DUE.is("feed to " + bytes, x.feed(0x3f3f3f3f, 0x3f3f3f3f, 0x3f3f3f3f, 0x3f3f3f3f, 0x3f3f3f3f), -1);
            DUE.is("bytes", x.count(8), bytes);
            DUE.is("none of it came", x.read(), 0);
        }
        x = new FamilyGlass();
        for (int i = 0; i < 99; i++) {
            x.feed(0x20202020, 0x20202020, 0x20202020, 0x20202020, 0x20202020);
        }
        DUE.is("feed to 1980", x.feed(0x20202020, 0x20202020, 0x20202020, 0x20202020, 0x2020203f), 2000);
        x.read();
        DUE.is("the last byte", x.place(), 1999);
        DUE.is("feed an empty tape", x.feed(-1, -1, -1, -1, -1), 20);
    }

    private static void backEdges() {
        DUE.about("promise 3: NONE, and nothing goes, if it has not so many, or n is below 0");
        FamilyGlass x = new FamilyGlass();
        DUE.is("an empty tape", x.back(0), 0);
        DUE.is("an empty tape", x.back(1), -1);
        Due.feed(x, "slips 1;seed 1?");
        int[] refused = {16, 20, 2000, 2001, Integer.MAX_VALUE, -1, -15, -16, Integer.MIN_VALUE};
        for (int n : refused) {
            DUE.is("back " + n, x.back(n), -1);
            DUE.is("bytes", x.count(8), 15);
        }
        DUE.is("back 0", x.back(0), 15);
        DUE.is("back 1", x.back(1), 14);
        Due.feed(x, ";");
        DUE.is("in its place", x.read(), 0);
        Due.feed(x, "slips 1?");
        DUE.is("back all", x.back(8), 0);
        DUE.is("back more", x.back(1), -1);
        DUE.is("read", x.read(), 0);
    }

    private static void readEdges() {
        DUE.about("promise 4: the tape, which is empty then");
        FamilyGlass x = new FamilyGlass();
        DUE.is("an empty tape", x.read(), 0);
        Due.feed(x, "seed 1");
        DUE.is("a FAULT", x.read(), 1);
        DUE.is("bytes", x.count(8), 0);
        DUE.is("no byte to go back", x.back(1), -1);
        DUE.is("an empty tape again", x.read(), 0);
        Due.feed(x, "seed 1;");
        DUE.is("no FAULT", x.read(), 0);
        DUE.is("bytes", x.count(8), 0);
        Due.feed(x, "person a 3 3;");
        x.read();
        DUE.is("an empty text is in place of it", x.read(), 0);
        DUE.is("people", x.count(0), 0);
    }

    private static void placeEdges() {
        DUE.about("promise 5: the byte of the latest read()'s FAULT; NONE without");
        FamilyGlass x = new FamilyGlass();
        DUE.is("no read()", x.place(), -1);
        Due.feed(x, "?");
        DUE.is("not read yet", x.place(), -1);
        x.read();
        DUE.is("the first byte", x.place(), 0);
        Due.feed(x, "seed 1;?");
        DUE.is("the latest", x.place(), 0);
        x.read();
        DUE.is("the latest", x.place(), 7);
        DUE.is("it stays", x.place(), 7);
        x.hours(1);
        x.undo();
        DUE.is("it stays", x.place(), 7);
        x.read();
        DUE.is("an empty text", x.place(), -1);
    }
}
