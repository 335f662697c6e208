/** Promises 1 to 13: things, ways, laws. */
public final class ThingsTest {
    private static final int MIN = Integer.MIN_VALUE, MAX = Integer.MAX_VALUE;

    private static void newObject() {
        EvenBags x = new EvenBags();
        for (int what = 0; what < 5; what++) {
            Check.due("1 count(" + what + ")", x.count(what), 0);
        }
        Check.due("1 left arm", x.count(5), 2);
        Check.due("1 right arm", x.count(6), 3);
        Check.due("1 lawful", x.lawful(), 0);
        Check.due("1 no image", x.restore(), EvenBags.NONE);
        for (int s = 0; s < 4; s++) {
            Check.due("1 no sheet", x.drop(s), EvenBags.NULL);
        }
        for (int b = 0; b < 3; b++) {
            Check.due("1 holds", x.bag(b, 0, 1), 999);
            Check.due("1 gives", x.bag(b, 1, 1), 0);
        }
        Check.due("1 the tape is empty", x.type('p'), 1);
        EvenBags y = new EvenBags();
        Check.due("1 nothing is shared", y.bag(0, 0, 5), 999);
    }

    private static void thing() {
        EvenBags x = new EvenBags();
        for (int[] bad : new int[][] {{-1, 5}, {4, 5}, {0, 0}, {0, 100}, {MIN, 1}, {MAX, 1}, {0, MIN}, {0, MAX}, {0, -7}}) {
            Check.due("2 thing bad", x.thing(bad[0], bad[1]), EvenBags.BAD);
        }
        Check.due("2 none came", x.count(0), 0);
        for (int t = 0; t < 10; t++) {
            Check.due("2 thing", x.thing(t % 4, t == 0 ? 1 : t == 1 ? 99 : 5), t);
        }
        Check.due("2 thing full", x.thing(0, 5), EvenBags.FULL);
        Check.due("2 bad ahead of full", x.thing(4, 5), EvenBags.BAD);
        Check.due("2 ten", x.count(0), 10);
    }

    private static void told() {
        EvenBags x = new EvenBags();
        Check.due("3 none", x.told(0, 0), EvenBags.BAD);
        x.thing(3, 42);
        x.thing(1, 7);
        int[] due = {3, 42, 5, 50, 0, 0};
        for (int what = 0; what < 6; what++) {
            Check.due("3 told(0, " + what + ")", x.told(0, what), due[what]);
        }
        Check.due("3 told(1, 0)", x.told(1, 0), 1);
        x.bar(1, 0);
        Check.due("3 hangs first", x.told(1, 5), 1);
        Check.due("3 hangs other", x.told(0, 5), 1);
        for (int[] bad : new int[][] {{-1, 0}, {2, 0}, {0, -1}, {0, 6}, {MIN, 0}, {MAX, 0}, {0, MIN}, {0, MAX}}) {
            Check.due("3 told bad", x.told(bad[0], bad[1]), EvenBags.BAD);
        }
    }

    private static void set() {
        EvenBags x = new EvenBags();
        Check.due("4 none", x.set(0, 1, 5), EvenBags.BAD);
        x.thing(0, 42);
        x.thing(1, 7);
        Check.due("4 weight", x.set(0, 1, 99), 42);
        Check.due("4 weight again", x.set(0, 1, 1), 99);
        Check.due("4 stop", x.set(0, 2, 0), 5);
        Check.due("4 stop again", x.set(0, 2, 5), 0);
        Check.due("4 stall", x.set(0, 3, 0), 50);
        Check.due("4 stall again", x.set(0, 3, 100), 0);
        Check.due("4 bag", x.set(0, 4, 2), 0);
        Check.due("4 bag again", x.set(0, 4, 1), 2);
        for (int[] bad : new int[][] {{0, 1, 0}, {0, 1, 100}, {0, 2, -1}, {0, 2, 6}, {0, 3, -1}, {0, 3, 101}, {0, 4, -1},
            {0, 4, 3}, {0, 0, 1}, {0, 5, 1}, {0, -1, 1}, {0, 6, 1}, {-1, 1, 1}, {2, 1, 1}, {MAX, 1, 1}, {MIN, 1, 1}, {0, 3, MAX},
            {0, 3, MIN}, {0, MAX, 1}}) {
            Check.due("4 set bad", x.set(bad[0], bad[1], bad[2]), EvenBags.BAD);
        }
        int[] due = {0, 1, 5, 100, 1, 0};
        int[] other = {1, 7, 5, 50, 0, 0};
        for (int what = 0; what < 6; what++) {
            Check.due("4 told(0, " + what + ")", x.told(0, what), due[what]);
            Check.due("4 told(1, " + what + ")", x.told(1, what), other[what]);
        }
    }

    private static void stretchAndOf() {
        EvenBags x = new EvenBags();
        Check.due("6 none", x.of(0, 0), EvenBags.BAD);
        for (int bad : new int[] {0, 100, -1, MIN, MAX}) {
            Check.due("5 stretch bad", x.stretch(bad, true), EvenBags.BAD);
        }
        Check.due("5 none came", x.count(1), 0);
        int[] yards = {1, 99, 5, 7, 8};
        for (int s = 0; s < 5; s++) {
            Check.due("5 stretch", x.stretch(yards[s], s % 2 == 1), s);
        }
        Check.due("5 full", x.stretch(1, false), EvenBags.FULL);
        Check.due("5 bad ahead of full", x.stretch(0, false), EvenBags.BAD);
        for (int s = 0; s < 5; s++) {
            Check.due("6 yards", x.of(s, 0), yards[s]);
            Check.due("6 uphill", x.of(s, 1), s % 2);
        }
        for (int[] bad : new int[][] {{-1, 0}, {5, 0}, {0, -1}, {0, 2}, {MIN, 0}, {MAX, 0}, {0, MAX}, {0, MIN}}) {
            Check.due("6 of bad", x.of(bad[0], bad[1]), EvenBags.BAD);
        }
        Check.due("13 the whole way, not twice", x.count(4), 120);
    }

    private static void bagAndArm() {
        EvenBags x = new EvenBags();
        for (int b = 0; b < 3; b++) {
            Check.due("7 holds", x.bag(b, 0, b), 999);
            Check.due("7 gives", x.bag(b, 1, 9999 - b), 0);
        }
        for (int b = 0; b < 3; b++) {
            Check.due("7 held", x.bag(b, 0, 999), b);
            Check.due("7 gave", x.bag(b, 1, 0), 9999 - b);
        }
        Check.due("7 holds nothing", x.bag(0, 0, 0), 999);
        for (int[] bad : new int[][] {{-1, 0, 1}, {3, 0, 1}, {0, -1, 1}, {0, 2, 1}, {0, 0, -1}, {0, 0, 1000}, {0, 1, -1},
            {0, 1, 10000}, {MAX, 0, 1}, {MIN, 0, 1}, {0, 0, MAX}, {0, 1, MIN}}) {
            Check.due("7 bag bad", x.bag(bad[0], bad[1], bad[2]), EvenBags.BAD);
        }
        Check.due("7 as it was", x.bag(0, 0, 1), 0);
        Check.due("8 left", x.arm(0, 9), 2);
        Check.due("8 right", x.arm(1, 1), 3);
        for (int[] bad : new int[][] {{-1, 1}, {2, 1}, {0, 0}, {0, 10}, {1, MIN}, {1, MAX}, {MAX, 1}, {MIN, 1}}) {
            Check.due("8 arm bad", x.arm(bad[0], bad[1]), EvenBags.BAD);
        }
        Check.due("8 left told", x.count(5), 9);
        Check.due("8 right told", x.count(6), 1);
        Check.due("8 left again", x.arm(0, 1), 9);
    }

    private static void ruleAndOff() {
        EvenBags x = new EvenBags();
        Check.due("10 none", x.off(), EvenBags.NONE);
        Check.due("9 no things", x.rule(0, 1, 0), EvenBags.BAD);
        x.thing(0, 1);
        x.thing(0, 1);
        for (int[] bad : new int[][] {{0, 0, 0}, {0, 2, 0}, {2, 0, 0}, {-1, 0, 0}, {0, -1, 0}, {0, 1, -1}, {0, 1, 2}, {MIN, 1, 0},
            {0, MAX, 0}, {0, 1, MAX}}) {
            Check.due("9 rule bad", x.rule(bad[0], bad[1], bad[2]), EvenBags.BAD);
        }
        for (int k = 0; k < 8; k++) {
            Check.due("9 rule", x.rule(k % 2, 1 - k % 2, 1), k);
        }
        Check.due("9 full", x.rule(0, 1, 0), EvenBags.FULL);
        Check.due("9 bad ahead of full", x.rule(0, 0, 0), EvenBags.BAD);
        Check.due("9 all hold", x.lawful(), 0);
        Check.due("10 off", x.off(), 7);
        Check.due("9 the last one anew", x.rule(0, 1, 0), 7);
        Check.due("9 it does not hold", x.lawful(), 2);
        for (int k = 7; k >= 0; k--) {
            Check.due("10 off", x.off(), k);
            Check.due("10 the last one", x.lawful(), 0);
        }
        Check.due("10 none left", x.off(), EvenBags.NONE);
    }

    private static void type() {
        EvenBags x = new EvenBags();
        for (int bad : new int[] {31, 127, -1, 0, MIN, MAX, 256 + 'p'}) {
            Check.due("11 type bad", x.type(bad), EvenBags.BAD);
        }
        for (int k = 1; k <= 80; k++) {
            Check.due("11 type", x.type(k % 2 == 0 ? 32 : 126), k);
        }
        Check.due("11 full", x.type('p'), EvenBags.FULL);
        Check.due("11 bad ahead of full", x.type(31), EvenBags.BAD);
        Check.due("12 the first letter of a full tape", x.market(), -20);
        Check.due("11 empty then", x.type('p'), 1);
        for (int k = 2; k <= 80; k++) {
            x.type('9');
        }
        Check.due("12 a tape full of digits", x.market(), -21);
    }

    private static void fault(EvenBags x, String text, int place) {
        Check.due("12 market '" + text + "'", Check.market(x, text), -20 - place);
        Check.due("12 all stays", x.count(0) * 10 + x.count(1), 21);
    }

    private static void faults() {
        EvenBags x = new EvenBags();
        Check.market(x, "p1,i2;3");
        fault(x, "", 0);
        fault(x, "   ", 3);
        fault(x, "1", 0);
        fault(x, "P1", 0);
        fault(x, ",p1", 0);
        fault(x, " q1", 1);
        fault(x, "p", 1);
        fault(x, "p ", 2);
        fault(x, "pp", 1);
        fault(x, "p0", 1);
        fault(x, "p00", 1);
        fault(x, "p 00", 2);
        fault(x, "p100", 1);
        fault(x, "p001", 1);
        fault(x, "p123456", 1);
        fault(x, "p99999999999999999999999999999999999999999999", 1);
        fault(x, "p1 2", 3);
        fault(x, "p1x", 2);
        fault(x, "p1@", 3);
        fault(x, "p1@ ", 4);
        fault(x, "p1@6", 3);
        fault(x, "p1@x", 3);
        fault(x, "p1@55", 4);
        fault(x, "p1@5@5", 4);
        fault(x, "p1@5 5", 5);
        fault(x, "p1,", 3);
        fault(x, "p1, ", 4);
        fault(x, "p1,,", 3);
        fault(x, "p1 i1", 3);
        fault(x, "p1;", 3);
        fault(x, "p1;p", 3);
        fault(x, "p1;0", 3);
        fault(x, "p1;100", 3);
        fault(x, "p1;5uu", 5);
        fault(x, "p1;5 5", 5);
        fault(x, "p1;5u5", 5);
        fault(x, "p1;5,", 5);
        fault(x, "p1;5;", 4);
        fault(x, "p1;u", 3);
        fault(x, "p1;5@1", 4);
        fault(x, "p1;1,2,3,4,5,6", 12);
        fault(x, "p1;1,2,3,4,5u ,6", 14);
        fault(x, "p1,p1,p1,p1,p1,p1,p1,p1,p1,p1,p1", 29);
        Check.due("12 things stay", x.told(1, 0) * 10 + x.told(1, 1), 12);
    }

    private static void market() {
        EvenBags x = new EvenBags();
        x.thing(0, 5);
        x.thing(0, 5);
        x.set(0, 3, 7);
        x.set(0, 4, 2);
        x.stretch(5, true);
        x.rule(0, 1, 0);
        x.bar(0, 1);
        x.bag(1, 0, 44);
        x.bag(2, 1, 55);
        x.arm(0, 7);
        Check.due("12 market", Check.market(x, " i 07 @ 2 , s9 ,f10@0,p99 ; 4 u , 05,99"), 4);
        int[][] due = {{1, 7, 2}, {2, 9, 5}, {3, 10, 0}, {0, 99, 5}};
        for (int t = 0; t < 4; t++) {
            for (int what = 0; what < 3; what++) {
                Check.due("12 told(" + t + ", " + what + ")", x.told(t, what), due[t][what]);
            }
            Check.due("12 stall", x.told(t, 3), 50);
            Check.due("12 bag", x.told(t, 4), 0);
            Check.due("12 hangs no more", x.told(t, 5), 0);
        }
        int[][] way = {{4, 1}, {5, 0}, {99, 0}};
        for (int s = 0; s < 3; s++) {
            Check.due("12 yards", x.of(s, 0), way[s][0]);
            Check.due("12 uphill", x.of(s, 1), way[s][1]);
        }
        int[] counts = {4, 3, 0, 0, 108, 7, 3};
        for (int what = 0; what < 7; what++) {
            Check.due("12 count(" + what + ")", x.count(what), counts[what]);
        }
        Check.due("12 bags stay", x.bag(1, 0, 1), 44);
        Check.due("12 bags stay", x.bag(2, 1, 1), 55);
        Check.due("12 ten things", Check.market(x, "p1,p1,p1,p1,p1,p1,p1,p1,p1,p1;9"), 10);
        Check.due("12 without a way", Check.market(x, "p1"), 1);
        Check.due("12 no stretches", x.count(1), 0);
        Check.due("12 stretches start anew", x.stretch(3, false), 0);
        Check.due("12 things go on", x.thing(2, 3), 1);
    }

    private static void count() {
        EvenBags x = new EvenBags();
        Check.market(x, "p1,p2,p3;10u,20");
        x.rule(0, 1, 1);
        x.bar(0, 1);
        x.bar(10, 2);
        int[] counts = {3, 2, 1, 2, 30, 2, 3};
        for (int what = 0; what < 7; what++) {
            Check.due("13 count(" + what + ")", x.count(what), counts[what]);
        }
        for (int bad : new int[] {-1, 7, MIN, MAX}) {
            Check.due("13 count bad", x.count(bad), EvenBags.BAD);
        }
    }

    public static void main(String[] args) {
        newObject();
        thing();
        told();
        set();
        stretchAndOf();
        bagAndArm();
        ruleAndOff();
        type();
        faults();
        market();
        count();
        Check.end();
    }
}
