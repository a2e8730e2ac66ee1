import java.util.Random;

/** FamilyGlass against a second reading of the document, by texts and runs of calls from fixed seeds. */
public final class PlainGlassTest {
    private static int wrong = 0;

    private static void due(String where, long got, long want) {
        if (got != want) {
            wrong++;
            if (wrong < 40) {
                System.out.println(where + " answered " + got + ", due is " + want);
            }
        }
    }

    private static int[] five(String text, int from) {
        int[] five = new int[5];
        for (int i = 0; i < 20; i++) {
            int sign = from + i < text.length() ? text.charAt(from + i) : ' ';
            five[i / 4] = five[i / 4] << 8 | sign;
        }
        return five;
    }

    private static void feed(FamilyGlass x, PlainGlass y, String text) {
        int start = x.count(8);
        for (int from = 0; from < text.length(); from += 20) {
            int[] f = five(text, from);
            due("feed", x.feed(f[0], f[1], f[2], f[3], f[4]), y.feed(f[0], f[1], f[2], f[3], f[4]));
        }
        int spare = Math.max(0, x.count(8) - start - text.length());
        due("back", x.back(spare), y.back(spare));
    }

    private static void readBoth(String where, FamilyGlass x, PlainGlass y, String text) {
        feed(x, y, text);
        due(where + " read of " + text, x.read(), y.read());
        due(where + " place of " + text, x.place(), y.place());
    }

    private static void compareTexts(int many) {
        Random random = new Random(7);
        FamilyGlass x = new FamilyGlass();
        PlainGlass y = new PlainGlass();
        int[] faults = new int[6];
        for (int i = 0; i < many; i++) {
            RandomText text = new RandomText(random);
            text.tokens();
            if (random.nextInt(3) == 0) {
                text.crowd();
            }
            if (random.nextInt(4) > 0) {
                text.spoil();
            }
            String it = text.text();
            readBoth("text " + i, x, y, it);
            for (int what = 0; what <= 16; what++) {
                due("text " + i + " count " + what + " of " + it, x.count(what), y.count(what));
            }
            due("text " + i + " mark of " + it, x.mark(), y.mark());
            feed(x, y, it);
            faults[x.read()]++;
            y.read();
        }
        System.out.println("texts without a fault and with each: " + java.util.Arrays.toString(faults));
    }

    private static int bit(boolean so) {
        return so ? 1 : 0;
    }

    private static final class Run {
        final Random random;
        final FamilyGlass x = new FamilyGlass();
        final PlainGlass y = new PlainGlass();
        final int number;

        Run(int number) {
            this.number = number;
            random = new Random(1000 + number);
        }

        /** Mostly within the bounds, now and then just out of them or far. */
        int from(int least, int most) {
            int kind = random.nextInt(40);
            if (kind == 0) {
                return least - 1;
            }
            if (kind == 1) {
                return most + 1;
            }
            if (kind == 2) {
                return random.nextBoolean() ? Integer.MIN_VALUE : Integer.MAX_VALUE;
            }
            return least + random.nextInt(most - least + 1);
        }

        /** Few hours mostly: the second reading is slow. */
        int hours(int most) {
            return random.nextInt(6) == 0 ? from(0, most) : from(0, Math.min(most, 12));
        }

        int person() {
            return random.nextInt(10) == 0 ? from(0, 4) : from(0, Math.max(0, y.count(0) - 1));
        }

        int doing() {
            return from(0, Math.max(0, y.count(1) - 1));
        }

        void text() {
            RandomText text = new RandomText(random);
            text.tokens();
            if (random.nextInt(6) == 0) {
                text.spoil();
            }
            readBoth("run " + number, x, y, text.text());
        }

        void go(int calls) {
            text();
            for (int i = 0; i < calls; i++) {
                String where = "run " + number + " call " + i + " ";
                if (random.nextInt(60) == 0) {
                    text();
                } else if (random.nextInt(2) == 0) {
                    doOne(where);
                } else if (random.nextInt(2) == 0) {
                    askNow(where);
                } else {
                    askFar(where);
                }
            }
        }

        void doOne(String where) {
            int p = person();
            int d = doing();
            boolean so = random.nextBoolean();
            int slot = from(0, 2);
            int n = hours(200);
            int i = from(0, 24);
            int v = from(0, 11);
            switch (random.nextInt(12)) {
                case 0: case 1: due(where + "tap", x.tap(), y.tap()); break;
                case 2: due(where + "let", x.let(), y.let()); break;
                case 3: due(where + "forbid", bit(x.forbid(d, so)), bit(y.forbid(d, so))); break;
                case 4: case 5: due(where + "cheer", bit(x.cheer(p, so)), bit(y.cheer(p, so))); break;
                case 6: due(where + "hours " + n, x.hours(n), y.hours(n)); break;
                case 7: due(where + "undo", bit(x.undo()), bit(y.undo())); break;
                case 8: due(where + "tell", x.tell(i, v, so), y.tell(i, v, so)); break;
                case 9: due(where + "hold", bit(x.hold(slot)), bit(y.hold(slot))); break;
                case 10: due(where + "restore", bit(x.restore(slot)), bit(y.restore(slot))); break;
                default:
                    if (random.nextInt(12) == 0) {
                        due(where + "forget", x.forget(), y.forget());
                    }
            }
        }

        void askNow(String where) {
            int p = person();
            int d = doing();
            int what = from(0, 1);
            int w = from(0, 16);
            int v = from(0, 100);
            int small = from(0, 30);
            int n = hours(200);
            switch (random.nextInt(11)) {
                case 0: due(where + "mark", x.mark(), y.mark()); break;
                case 1: due(where + "person", x.person(p, w % 5), y.person(p, w % 5)); break;
                case 2: due(where + "doing", x.doing(d, w % 8), y.doing(d, w % 8)); break;
                case 3: case 4: due(where + "count " + w, x.count(w), y.count(w)); break;
                case 5: due(where + "gloomiest", x.gloomiest(what), y.gloomiest(what)); break;
                case 6: due(where + "parts", x.parts(v, what), y.parts(v, what)); break;
                case 7: due(where + "parts", x.parts(small, what), y.parts(small, what)); break;
                case 8: due(where + "pairs " + (p - 1), x.pairs(p - 1), y.pairs(p - 1)); break;
                case 9: due(where + "markIn " + n, x.markIn(n), y.markIn(n)); break;
                default: due(where + "moodIn " + n, x.moodIn(p, n), y.moodIn(p, n));
            }
        }

        void askFar(String where) {
            int p = person();
            int what = from(0, 1);
            int v = from(0, 11);
            int n = hours(60);
            int far = hours(200);
            int three = from(0, 2);
            int k = from(0, Math.max(0, y.count(10)));
            int s = from(1, 20);
            int g = random.nextInt(30) == 0 ? from(1, 4) : from(1, 2);
            switch (random.nextInt(17)) {
                case 0: due(where + "comes " + v, x.comes(v), y.comes(v)); break;
                case 1: due(where + "round " + what, x.round(what), y.round(what)); break;
                case 2: due(where + "settles", x.settles(), y.settles()); break;
                case 3: due(where + "itself", x.itself(), y.itself()); break;
                case 4: due(where + "forbids", x.forbids(v, n, what), y.forbids(v, n, what)); break;
                case 5: due(where + "tapping", x.tapping(v, n), y.tapping(v, n)); break;
                case 6: due(where + "often", x.often(v, far), y.often(v, far)); break;
                case 7: due(where + "quiet", x.quiet(far), y.quiet(far)); break;
                case 8: due(where + "busiest", x.busiest(far, what), y.busiest(far, what)); break;
                case 9: due(where + "coax " + v + " " + n + " " + three, x.coax(v, n, three), y.coax(v, n, three)); break;
                case 10: due(where + "changed", x.changed(v, n), y.changed(v, n)); break;
                case 11: due(where + "worth", x.worth(p, n), y.worth(p, n)); break;
                case 12: due(where + "highest", x.highest(n, what), y.highest(n, what)); break;
                case 13: due(where + "game " + g, x.game(g, what), y.game(g, what)); break;
                case 14: due(where + "year", x.year(v, far, s), y.year(v, far, s)); break;
                case 15: due(where + "fits", x.fits(k, p, what), y.fits(k, p, what)); break;
                default: due(where + "look", x.look(k, p, v), y.look(k, p, v));
            }
        }
    }

    public static void main(String[] args) {
        int texts = args.length > 0 ? Integer.parseInt(args[0]) : 6000;
        int runs = args.length > 1 ? Integer.parseInt(args[1]) : 60;
        compareTexts(texts);
        for (int i = 0; i < runs; i++) {
            new Run(i).go(400);
        }
        System.out.println(wrong == 0 ? "all answers are as due" : wrong + " answers are not as due");
        if (wrong != 0) {
            System.exit(1);
        }
    }
}
