/** Promises 14 to 29: packings. */
public final class PackingsTest {
    private static final int MIN = Integer.MIN_VALUE, MAX = Integer.MAX_VALUE;

    private static EvenBags of(String market, int... bags) {
        EvenBags x = new EvenBags();
        Check.due("a market " + market, Check.market(x, market) > 0);
        pack(x, bags);
        return x;
    }

    private static void pack(EvenBags x, int... bags) {
        for (int t = 0; t < bags.length; t++) {
            x.set(t, 4, bags[t]);
        }
    }

    private static void row(String call, EvenBags x, int... bags) {
        for (int t = 0; t < bags.length; t++) {
            int got = call.equals("best") ? x.best(t) : x.told(t, 4);
            Check.due(call + " of thing " + t, got, bags[t]);
        }
    }

    private static void load() {
        EvenBags x = of("p5,i3,s4@2,f3;1,1,1,1,1", 0, 0, 0, 0);
        int[] left = {15, 12, 6, 5, 5};
        for (int s = 0; s < 5; s++) {
            Check.due("14 load(0, " + s + ")", x.load(0, s), left[s]);
            Check.due("14 load(1, " + s + ")", x.load(1, s), 0);
        }
        pack(x, 1, 2, 2, 0);
        int[] shoulder = {7, 6, 1, 0, 0};
        int[] fish = {3, 1, 0, 0, 0};
        for (int s = 0; s < 5; s++) {
            Check.due("14 load(0, " + s + ")", x.load(0, s), fish[s]);
            Check.due("14 load(1, " + s + ")", x.load(1, s), 5);
            Check.due("14 load(2, " + s + ")", x.load(2, s), shoulder[s]);
        }
        x.set(0, 2, 0);
        Check.due("14 left ahead of all", x.load(1, 0), 0);
        x.set(0, 2, 1);
        Check.due("14 left behind the first", x.load(1, 0), 5);
        Check.due("14 left behind the first", x.load(1, 1), 0);
        for (int[] bad : new int[][] {{-1, 0}, {3, 0}, {0, -1}, {0, 5}, {MIN, 0}, {MAX, 0}, {0, MIN}, {0, MAX}}) {
            Check.due("14 load bad", x.load(bad[0], bad[1]), EvenBags.BAD);
        }
        Check.due("14 no stretch", of("p5").load(0, 0), EvenBags.BAD);
    }

    private static void lawful() {
        EvenBags x = of("p5,i6@1,s5;1,1", 0, 1, 0);
        Check.due("15 lawful", x.lawful(), 0);
        x.set(1, 4, 0);
        Check.due("15 a heavier one", x.lawful(), 3);
        x.set(1, 2, 0);
        Check.due("15 stops don't matter", x.lawful(), 3);
        x.set(1, 1, 5);
        Check.due("15 as heavy is fine", x.lawful(), 0);
        x.set(0, 1, 6);
        Check.due("15 one ahead of it", x.lawful(), 3);
        x.rule(0, 2, 0);
        Check.due("15 the law comes first", x.lawful(), 2);
        x.set(2, 4, 1);
        Check.due("15 apart", x.lawful(), 0);
        x.rule(2, 1, 1);
        Check.due("15 not beside", x.lawful(), 2);
        x.set(1, 4, 1);
        Check.due("15 beside", x.lawful(), 0);
        x.bag(0, 0, 6);
        Check.due("15 it holds so much", x.lawful(), 0);
        x.bag(0, 0, 5);
        Check.due("15 it does not hold", x.lawful(), 1);
        x.set(1, 4, 2);
        Check.due("15 holding comes first", x.lawful(), 1);
        Check.due("15 without a way all holds", Check.market(x, "p9,p9"), 2);
        Check.due("15 without a way all holds", x.lawful(), 0);
        EvenBags y = of("s5,s6", 0, 0);
        Check.due("15 a soft one below a soft one", y.lawful(), 3);
        EvenBags z = of("p9@1,i9@2,p9@3,f9;1,1,1,1", 2, 2, 2, 2);
        z.bag(2, 0, 35);
        Check.due("15 the first stretch", z.lawful(), 1);
        z.bag(2, 0, 36);
        Check.due("15 the first stretch", z.lawful(), 0);
    }

    private static void pullAndUneven() {
        EvenBags x = of("p10,p4@1,i5,f9@2;10,7u,99", 0, 1, 1, 2);
        Check.due("16 pull(0)", x.pull(0), 30 - 18);
        Check.due("16 pull(1)", x.pull(1), 30 - 8);
        Check.due("16 pull(2)", x.pull(2), 30 - 6);
        Check.due("17 worst", x.uneven(0), 24);
        Check.due("17 whole", x.uneven(1), 120 + 22 * 14 + 24 * 99);
        x.arm(0, 9);
        x.arm(1, 1);
        Check.due("16 pull(0)", x.pull(0), 10 - 81);
        Check.due("16 pull(1)", x.pull(1), 10 - 36);
        Check.due("16 pull(2)", x.pull(2), 10 - 27);
        Check.due("17 worst without the sign", x.uneven(0), 71);
        Check.due("17 whole without the sign", x.uneven(1), 710 + 26 * 14 + 17 * 99);
        for (int bad : new int[] {-1, 3, MIN, MAX}) {
            Check.due("16 pull bad", x.pull(bad), -10000001);
            Check.due("17 uneven bad", x.uneven(bad == 3 ? 2 : bad), EvenBags.BAD);
        }
        EvenBags y = of("p10");
        Check.due("16 no stretch", y.pull(0), -10000001);
        Check.due("17 worst without any", y.uneven(0), 0);
        Check.due("17 whole without any", y.uneven(1), 0);
    }

    private static void best() {
        EvenBags x = of("p3,p2;10");
        Check.due("18 worst", x.best(-2), 0);
        Check.due("18 whole", x.best(-1), 0);
        row("best", x, 1, 0);
        x.arm(0, 3);
        Check.due("18 on the shoulder", x.best(-2), 0);
        row("best", x, 2, 2);
        x.bag(2, 0, 1);
        Check.due("18 worst", x.best(-2), 3);
        Check.due("18 whole", x.best(-1), 30);
        row("best", x, 0, 1);
        row("told", x, 0, 0);
        Check.due("19 pack", x.pack(), 3);
        row("told", x, 0, 1);
        Check.due("19 uneven", x.uneven(0), 3);
        x.rule(0, 1, 1);
        Check.due("18 a law", x.best(-2), 15);
        row("best", x, 0, 0);
        x.bag(0, 0, 4);
        row("best", x, 1, 1);
        x.bag(1, 0, 4);
        Check.due("18 none", x.best(-2), EvenBags.NONE);
        Check.due("18 none", x.best(0), EvenBags.NONE);
        Check.due("18 bad ahead of none", x.best(2), EvenBags.BAD);
        Check.due("19 none", x.pack(), EvenBags.NONE);
        row("told", x, 0, 1);
        for (int bad : new int[] {-3, 2, MIN, MAX}) {
            Check.due("18 bad", x.best(bad), EvenBags.BAD);
        }
        EvenBags y = of("p5,s4");
        Check.due("18 without a way the first lawful one", y.best(-2) + y.best(-1), 0);
        row("best", y, 0, 1);
        Check.due("18 no things", new EvenBags().best(-2), 0);
        Check.due("18 no things", new EvenBags().best(0), EvenBags.BAD);
        Check.due("19 no things", new EvenBags().pack(), 0);
    }

    /** Of like WORST the least WHOLE: the second thing weighs nothing where it is left. */
    private static void bestByWhole() {
        EvenBags x = of("p4,p1@1;1,9");
        x.bag(2, 0, 0);
        x.arm(0, 1);
        x.arm(1, 1);
        Check.due("18 worst", x.best(-2), 4);
        Check.due("18 whole", x.best(-1), 3 + 36);
        row("best", x, 0, 1);
        x.bag(0, 0, 3);
        row("best", x, 1, 0);
        Check.due("18 whole", x.best(-1), 3 + 36);
    }

    private static void evenest() {
        EvenBags x = of("p6,p4,p9@1;10,10");
        x.arm(0, 4);
        x.arm(1, 4);
        int[][] due = {{4, 0, 0, 1}, {8, 0, 1, 0}};
        for (int s = 0; s < 2; s++) {
            Check.due("20 evenest off", x.evenest(s, -1), due[s][0]);
            for (int t = 0; t < 3; t++) {
                Check.due("20 evenest(" + s + ", " + t + ")", x.evenest(s, t), due[s][t + 1]);
            }
        }
        x.rule(0, 1, 0);
        x.bag(0, 0, 0);
        Check.due("20 lawful or not", x.evenest(0, -1), 4);
        x.arm(0, 6);
        Check.due("20 by strengths", x.evenest(1, -1), 0);
        Check.due("20 by strengths", x.evenest(1, 0) * 10 + x.evenest(1, 1), 1);
        for (int[] bad : new int[][] {{-1, 0}, {2, 0}, {0, -2}, {0, 3}, {MIN, 0}, {MAX, 0}, {0, MIN}, {0, MAX}}) {
            Check.due("20 bad", x.evenest(bad[0], bad[1]), EvenBags.BAD);
        }
        EvenBags y = new EvenBags();
        y.stretch(5, false);
        Check.due("20 no things", y.evenest(0, -1), 0);
        Check.due("20 no things", y.evenest(0, 0), EvenBags.BAD);
    }

    private static void moved() {
        EvenBags x = of("p6,p4,p9@1;10,10", 0, 0, 0);
        x.arm(0, 1);
        x.arm(1, 1);
        Check.due("21 moved", x.moved(0, 10, -1), 1);
        Check.due("21 the last one", x.moved(0, 10, 0) * 100 + x.moved(0, 10, 1) * 10 + x.moved(0, 10, 2), 1);
        Check.due("21 moved", x.moved(0, 0, -1), 3);
        Check.due("21 all of them", x.moved(0, 0, 0) * 100 + x.moved(0, 0, 1) * 10 + x.moved(0, 0, 2), 222);
        Check.due("21 none moved", x.moved(0, 99999, -1), 0);
        Check.due("21 from the second on", x.moved(1, 2, -1), 1);
        Check.due("21 from the second on", x.moved(1, 2, 0) * 100 + x.moved(1, 2, 1) * 10 + x.moved(1, 2, 2), 10);
        Check.due("21 at the limit", x.moved(1, 10, -1), 0);
        Check.due("21 below the limit", x.moved(1, 9, -1), 1);
        Check.due("21 the first as a row", x.moved(1, 9, 0) * 10 + x.moved(1, 9, 1), 1);
        x.bag(2, 0, 3);
        Check.due("21 even", x.moved(1, 1, -1), EvenBags.NONE);
        Check.due("21 even", x.moved(1, 1, 0), EvenBags.NONE);
        x.rule(0, 1, 0);
        Check.due("21 a law", x.moved(0, 99999, -1), 1);
        Check.due("21 a law", x.moved(0, 99999, 0) * 10 + x.moved(0, 99999, 1), 1);
        x.set(1, 4, 2);
        Check.due("21 against the packing", x.moved(0, 99999, 1), 1);
        for (int[] bad : new int[][] {{-1, 0, 0}, {2, 0, 0}, {0, -1, 0}, {0, 100000, 0}, {0, 0, -2}, {0, 0, 3}, {MIN, 0, 0},
            {MAX, 0, 0}, {0, MIN, 0}, {0, MAX, 0}, {0, 0, MIN}, {0, 0, MAX}}) {
            Check.due("21 bad", x.moved(bad[0], bad[1], bad[2]), EvenBags.BAD);
        }
        Check.due("21 changes nothing", x.told(1, 4), 2);
        EvenBags y = of("p6,p4,p9@1;10,10", 2, 0, 0);
        Check.due("21 ahead of packing", y.moved(0, 12, -1), 1);
        Check.due("21 from the second on, like limit", y.moved(1, 12, -1), 0);
        y.pack();
        Check.due("21 behind packing", y.moved(0, 12, -1), 0);
    }

    private static void fraction(String call, int upper, int lower, int wantUpper, int wantLower) {
        Check.due(call + " upper", upper, wantUpper);
        Check.due(call + " lower", lower, wantLower);
    }

    private static void hands() {
        EvenBags x = of("p6,p4@1,p7@0,i1;10,5u", 0, 1, 2, 2);
        // 60 and 60 uphill, of which the left hand bears 48
        fraction("22 left", x.hands(0, 0), x.hands(0, 1), 8, 1);
        fraction("22 right", x.hands(1, 0), x.hands(1, 1), 4, 1);
        fraction("22 shoulder", x.hands(2, 0), x.hands(2, 1), 4, 1);
        x.arm(0, 3);
        fraction("22 the first such yard", x.hands(0, 0), x.hands(0, 1), 10, 1);
        x.arm(0, 9);
        fraction("22 uphill", x.hands(0, 0), x.hands(0, 1), 25, 2);
        pack(x, 0, 0, 0, 0);
        x.set(0, 2, 0);
        x.set(1, 2, 0);
        x.set(3, 2, 0);
        fraction("22 nothing is borne", x.hands(0, 0), x.hands(0, 1), 0, 1);
        fraction("22 an empty bag", x.hands(1, 0), x.hands(1, 1), 0, 1);
        EvenBags y = of("f2,p3@1;3,9,9u", 0, 1);
        fraction("22 where nothing is left to bear", y.hands(0, 0), y.hands(0, 1), 6, 5);
        for (int[] bad : new int[][] {{-1, 0}, {3, 0}, {0, -1}, {0, 2}, {MIN, 0}, {MAX, 0}, {0, MIN}, {0, MAX}}) {
            Check.due("22 bad", x.hands(bad[0], bad[1]), EvenBags.BAD);
        }
    }

    private static void buying() {
        EvenBags x = new EvenBags();
        Check.due("23 nothing", x.buying(-1), 0);
        Check.due("23 nothing", x.buying(0), EvenBags.BAD);
        x.thing(0, 5);
        Check.due("23 at 0", x.buying(-1), 0);
        x.set(0, 3, 40);
        Check.due("23 back", x.buying(-1), 50);
        x.thing(0, 1);
        x.set(1, 3, 70);
        // the light one first: 30 times 1, then 10 times 6; or 30 times 5, then 20 times 6
        Check.due("23 the light one first", x.buying(-1), 90);
        Check.due("23 the light one first", x.buying(0), 1);
        Check.due("23 the heavy one then", x.buying(1), 0);
        x.set(1, 3, 50);
        Check.due("23 the one at 0 costs nothing", x.buying(-1), 50);
        Check.due("23 the first as a row", x.buying(0) * 10 + x.buying(1), 1);
        x.set(0, 3, 50);
        Check.due("23 all at 0", x.buying(-1), 0);
        Check.due("23 the first as a row", x.buying(0) * 10 + x.buying(1), 1);
        for (int bad : new int[] {-2, 2, MIN, MAX}) {
            Check.due("23 bad", x.buying(bad), EvenBags.BAD);
        }
        for (int t = 2; t < 10; t++) {
            x.thing(0, 99);
            x.set(t, 3, t % 2 == 0 ? 0 : 100);
        }
        // four at each end: one end first, all the way with 396, back with 792
        Check.due("23 ten", x.buying(-1), 100 * 396 + 50 * 792);
        Check.due("23 ten, the first", x.buying(0), 2);
        Check.due("23 ten, on the way home", x.buying(7), 9);
        Check.due("23 ten, those at 0 last", x.buying(8), 0);
        Check.due("23 ten, the last", x.buying(9), 1);
    }

    private static void paper() {
        EvenBags x = of("p50,i6,f5@2,s50;2,3u,99", 1, 1, 1, 1);
        Check.due("24 never", x.paper(1, 0), EvenBags.NONE);
        // 11 a yard, then 8, then 4
        x.bag(1, 1, 22);
        fraction("24 the first such yard", x.paper(1, 0), x.paper(1, 1), 2, 1);
        x.bag(1, 1, 7);
        fraction("24 on the first", x.paper(1, 0), x.paper(1, 1), 7, 11);
        x.bag(1, 1, 28);
        fraction("24 on the second, not twice", x.paper(1, 0), x.paper(1, 1), 11, 4);
        x.bag(1, 1, 47);
        fraction("24 on the third", x.paper(1, 0), x.paper(1, 1), 21, 4);
        x.bag(1, 1, 46 + 4 * 99);
        fraction("24 at the end", x.paper(1, 0), x.paper(1, 1), 104, 1);
        x.bag(1, 1, 46 + 4 * 99 + 1);
        Check.due("24 beyond the end", x.paper(1, 0), EvenBags.NONE);
        x.bag(0, 1, 1);
        Check.due("24 an empty bag", x.paper(0, 1), EvenBags.NONE);
        x.bag(1, 1, 1);
        pack(x, 1, 2, 2, 1);
        Check.due("24 nothing wet", x.paper(1, 0), EvenBags.NONE);
        for (int[] bad : new int[][] {{-1, 0}, {3, 0}, {2, -1}, {2, 2}, {MIN, 0}, {MAX, 0}, {0, MIN}, {0, MAX}}) {
            Check.due("24 bad ahead of none", x.paper(bad[0], bad[1]), EvenBags.BAD);
        }
    }

    private static void pole() {
        EvenBags x = of("p12,i20,f99@0,s1");
        fraction("25 pole", x.pole(0, 1, 100, 0), x.pole(0, 1, 100, 1), 125, 2);
        fraction("25 the other way", x.pole(1, 0, 100, 0), x.pole(1, 0, 100, 1), 75, 2);
        fraction("25 the longest", x.pole(3, 2, 999, 0), x.pole(3, 2, 999, 1), 98901, 100);
        fraction("25 the shortest", x.pole(2, 3, 1, 0), x.pole(2, 3, 1, 1), 1, 100);
        for (int[] bad : new int[][] {{0, 0, 9, 0}, {-1, 0, 9, 0}, {0, 4, 9, 0}, {4, 0, 9, 0}, {0, 1, 0, 0}, {0, 1, 1000, 0},
            {0, 1, 9, -1}, {0, 1, 9, 2}, {MAX, 1, 9, 0}, {0, MIN, 9, 0}, {0, 1, MAX, 0}, {0, 1, MIN, 0}, {0, 1, 9, MAX}}) {
            Check.due("25 bad", x.pole(bad[0], bad[1], bad[2], bad[3]), EvenBags.BAD);
        }
    }

    private static void barAndHung() {
        EvenBags x = of("p12,p20,p3,p15,p7,p30,p1,p1,p1,p1");
        Check.due("27 none", x.hung(0, 0), EvenBags.BAD);
        for (int[] bad : new int[][] {{0, 0}, {-1, 0}, {0, -1}, {10, 0}, {0, 10}, {MIN, 0}, {MAX, 0}, {0, MAX}, {0, MIN}}) {
            Check.due("26 bad", x.bar(bad[0], bad[1]), EvenBags.BAD);
        }
        Check.due("26 bar", x.bar(0, 1), 0);
        Check.due("26 itself", x.bar(11, 2), EvenBags.BAD);
        Check.due("26 alike", x.bar(10, 10), EvenBags.BAD);
        Check.due("26 one hangs", x.bar(0, 2), EvenBags.NOT);
        Check.due("26 the other hangs", x.bar(2, 1), EvenBags.NOT);
        Check.due("26 one alike, hanging", x.bar(0, 0), EvenBags.BAD);
        Check.due("26 bar", x.bar(2, 10), 1);
        Check.due("26 a bar hangs", x.bar(10, 3), EvenBags.NOT);
        fraction("27 hung", x.hung(0, 0), x.hung(0, 1), 75, 2);
        fraction("27 a bar at the other end", x.hung(1, 0), x.hung(1, 1), 384, 7);
        Check.due("27 all weight", x.hung(0, 2), 32);
        Check.due("27 all weight", x.hung(1, 2), 35);
        x.set(0, 1, 40);
        Check.due("27 another weight", x.hung(1, 2), 63);
        fraction("27 another weight", x.hung(0, 0), x.hung(0, 1), 20, 1);
        Check.due("26 bar", x.bar(3, 4), 2);
        Check.due("26 bar", x.bar(11, 12), 3);
        Check.due("27 two bars", x.hung(3, 2), 85);
        fraction("27 two bars", x.hung(3, 0), x.hung(3, 1), 264, 17);
        Check.due("26 bar", x.bar(5, 13), 4);
        Check.due("26 bar", x.bar(6, 14), 5);
        Check.due("27 all of them", x.hung(5, 2), 116);
        Check.due("26 full", x.bar(7, 8), EvenBags.FULL);
        Check.due("26 full with a bar", x.bar(15, 8), EvenBags.FULL);
        Check.due("26 not ahead of full", x.bar(6, 7), EvenBags.NOT);
        Check.due("26 bad ahead of full", x.bar(16, 7), EvenBags.BAD);
        Check.due("26 hangs", x.told(6, 5) * 10 + x.told(7, 5), 10);
        Check.due("13 bars", x.count(3), 6);
        for (int[] bad : new int[][] {{-1, 0}, {6, 0}, {0, -1}, {0, 3}, {MIN, 0}, {MAX, 0}, {0, MIN}, {0, MAX}}) {
            Check.due("27 bad", x.hung(bad[0], bad[1]), EvenBags.BAD);
        }
        EvenBags y = of("p1,p1,p1");
        Check.due("26 no such thing", y.bar(0, 3), EvenBags.BAD);
    }

    private static long fingerprint(EvenBags x) {
        long sum = 0;
        for (int what = 0; what < 7; what++) {
            sum = sum * 31 + x.count(what);
        }
        for (int k = 0; k < 10; k++) {
            for (int what = 0; what < 6; what++) {
                sum = sum * 31 + x.told(k, what);
            }
            sum = sum * 31 + x.of(k, 0);
            sum = sum * 31 + x.of(k, 1);
            sum = sum * 31 + x.pull(k);
            sum = sum * 31 + x.hung(k, 0);
            sum = sum * 31 + x.hung(k, 2);
            sum = sum * 31 + x.best(k);
            sum = sum * 31 + x.buying(k);
            sum = sum * 31 + x.evenest(0, k);
            sum = sum * 31 + x.moved(0, 20, k);
        }
        for (int b = 0; b < 3; b++) {
            for (int what = 0; what < 2; what++) {
                int was = x.bag(b, what, 1);
                x.bag(b, what, was);
                sum = sum * 31 + was;
            }
        }
        return sum * 31 + x.lawful();
    }

    private static void imageAndRestore() {
        EvenBags x = of("p12,i20@4,s3,f15@3;10,5u,20", 0, 1, 2, 1);
        Check.due("29 none", x.restore(), EvenBags.NONE);
        x.set(1, 3, 99);
        x.rule(0, 1, 0);
        x.rule(2, 3, 0);
        x.bar(0, 1);
        x.bar(10, 3);
        x.bag(0, 0, 50);
        x.bag(1, 1, 60);
        x.arm(1, 5);
        Check.fill(x, 0, 0, 1, 2, 0, 0);
        x.type('p');
        long before = fingerprint(x);
        Check.due("28 image", x.image(), 1);
        Check.due("28 changes nothing", fingerprint(x), before);
        x.off();
        x.set(0, 1, 50);
        x.set(0, 4, 2);
        x.stretch(4, true);
        x.thing(1, 9);
        x.bag(0, 0, 5);
        x.bag(1, 1, 5);
        x.arm(0, 7);
        x.rule(4, 1, 1);
        x.bar(4, 11);
        Check.fill(x, 0, 0, 2, 2, 2, 2);
        Check.due("29 another one", fingerprint(x) != before);
        Check.due("29 restore", x.restore(), 1);
        Check.due("29 as it was", fingerprint(x), before);
        x.type('8');
        Check.due("29 the tape is not kept", x.market(), 1);
        Check.due("29 restore again", x.restore(), 1);
        Check.due("29 as it was again", fingerprint(x), before);
        Check.due("29 sheets are not kept", x.lay(0, 0, 0), 2);
        Check.due("29 sheets are not kept", x.told(3, 4), 2);
        x.restore();
        Check.market(x, "p1,p2,p3,p4");
        x.rule(2, 1, 1);
        x.rule(0, 3, 1);
        x.bar(3, 2);
        x.bar(1, 10);
        x.restore();
        Check.due("29 laws and bars as they were", fingerprint(x), before);
        x.lay(0, 0, 0);
        Check.due("28 a new image", x.image(), 1);
        x.set(3, 4, 0);
        x.restore();
        Check.due("29 the new image", x.told(3, 4), 2);
    }

    private static void restoreToNothing() {
        EvenBags x = new EvenBags();
        x.image();
        x.thing(0, 5);
        x.set(0, 3, 0);
        x.stretch(9, false);
        x.bag(2, 0, 0);
        Check.due("23 one thing", x.buying(-1), 250);
        Check.due("18 one thing", x.best(-2), 10);
        x.restore();
        Check.due("29 no things", x.count(0) + x.count(1), 0);
        Check.due("23 nothing again", x.buying(-1), 0);
        Check.due("18 nothing again", x.best(-2) + x.best(-1), 0);
        Check.due("29 the first again", x.thing(1, 1), 0);
        Check.due("29 at 0 again", x.told(0, 3), 50);
    }

    public static void main(String[] args) {
        load();
        lawful();
        pullAndUneven();
        best();
        bestByWhole();
        evenest();
        moved();
        hands();
        buying();
        paper();
        pole();
        barAndHung();
        imageAndRestore();
        restoreToNothing();
        Check.end();
    }
}
