/** The boundary cases of promises 1 to 13, each behind the words of the document that it tests. */
final class ThingsEdges {
    private ThingsEdges() {
    }

    private static void newObject() {
        Doc.promise(1, "Empty bags, no way.");
        EvenBags x = new EvenBags();
        int[] counts = {0, 0, 0, 0, 0, 2, 3};
        for (int what = 0; what < 7; what++) {
            Check.due("count(" + what + ")", x.count(what), counts[what]);
        }
        Edge.refused(Edge.EMPTY, Edge.BAD, "told", 0, 0);
        Edge.refused(Edge.EMPTY, Edge.BAD, "of", 0, 0);
        Edge.refused(Edge.EMPTY, Edge.BAD, "load", 0, 0);
        Edge.refused(Edge.EMPTY, Edge.BAD, "hung", 0, 0);
        x.stretch(5, false);
        for (int b = 0; b < 3; b++) {
            Check.due("an empty bag", x.load(b, 0), 0);
        }
        Check.due("nothing pulls", x.pull(0), 0);
        Check.due("nothing shared with another one", new EvenBags().count(1), 0);
    }

    private static void thing() {
        Doc.promise(2, "A THING: its number.");
        EvenBags x = new EvenBags();
        for (int t = 0; t < 10; t++) {
            Check.due("thing", x.thing(t % 4, 10 * t + 1), t);
        }
        for (int t = 0; t < 10; t++) {
            Check.due("kind", x.told(t, 0), t % 4);
            Check.due("weight", x.told(t, 1), 10 * t + 1);
        }
        Doc.promise(2, "BAD;");
        Edge.bounds(Edge.EMPTY, Call.of("thing", 0, 5), 0, 0, 3, Edge.BAD);
        Edge.bounds(Edge.EMPTY, Call.of("thing", 0, 5), 1, 1, 99, Edge.BAD);
        Edge.bounds(Edge.SOME, Call.of("thing", 0, 5), 0, 0, 3, Edge.BAD);
        Edge.bounds(Edge.SOME, Call.of("thing", 0, 5), 1, 1, 99, Edge.BAD);
        Doc.promise(2, "FULL: 10.");
        Check.due("ten", x.count(0), 10);
        Edge.refused(Edge.ALL, Edge.FULL, "thing", 0, 5);
        Edge.refused(Edge.ALL, Edge.FULL, "thing", 3, 99);
    }

    private static void told() {
        Doc.promise(3, "Of a THING: 0 KIND, 1 WEIGHT, 2 STOP, 3 STALL and 50, 4 the BAG,");
        EvenBags x = new EvenBags();
        x.thing(0, 1);
        x.thing(3, 99);
        int[] first = {0, 1, 5, 50, 0, 0};
        int[] last = {3, 99, 0, 100, 2, 0};
        x.set(1, 2, 0);
        x.set(1, 3, 100);
        x.set(1, 4, 2);
        for (int what = 0; what < 6; what++) {
            Check.due("told(0, " + what + ")", x.told(0, what), first[what]);
            Check.due("told(1, " + what + ")", x.told(1, what), last[what]);
        }
        x.set(1, 3, 0);
        Check.due("the least stall", x.told(1, 3), 0);
        Doc.promise(3, "5 whether it hangs on a BAR (1, 0).");
        x.thing(0, 1);
        x.bar(2, 0);
        Check.due("first of a bar", x.told(2, 5), 1);
        Check.due("other of a bar", x.told(0, 5), 1);
        Check.due("hangs not", x.told(1, 5), 0);
        x.bar(10, 1);
        Check.due("on a bar with a bar", x.told(1, 5), 1);
        Doc.promise(3, "BAD.");
        for (int what = 0; what < 6; what++) {
            Edge.bounds(Edge.SOME, Call.of("told", 0, what), 0, 0, 5, Edge.BAD);
            Edge.refused(Edge.EMPTY, Edge.BAD, "told", 0, what);
        }
        Edge.bounds(Edge.SOME, Call.of("told", 0, 0), 1, 0, 5, Edge.BAD);
        Edge.bounds(Edge.ALL, Call.of("told", 0, 0), 0, 0, 9, Edge.BAD);
    }

    private static void set() {
        Doc.promise(4, "WEIGHT (1), STOP (2), STALL and 50 (3), the BAG (4) of a THING becomes v: what it was.");
        int[][] ranges = {{1, 1, 99}, {2, 0, 5}, {3, 0, 100}, {4, 0, 2}};
        for (int[] range : ranges) {
            EvenBags x = Edge.of("p12,i20");
            int was = x.told(1, range[0]);
            Check.due("what it was", x.set(1, range[0], range[1]), was);
            Check.due("the least", x.told(1, range[0]), range[1]);
            Check.due("what it was", x.set(1, range[0], range[2]), range[1]);
            Check.due("the greatest", x.told(1, range[0]), range[2]);
            Check.due("what it was", x.set(1, range[0], range[2]), range[2]);
            int[] other = {0, 12, 5, 50, 0, 0};
            for (int what = 0; what < 6; what++) {
                Check.due("another one stays", x.told(0, what), other[what]);
            }
            Check.due("the kind stays", x.told(1, 0), 1);
        }
        Doc.promise(4, "BAD.");
        for (int[] range : ranges) {
            Edge.bounds(Edge.SOME, Call.of("set", 0, range[0], 1), 2, range[1], range[2], Edge.BAD);
            Edge.bounds(Edge.SOME, Call.of("set", 0, range[0], 1), 0, 0, 5, Edge.BAD);
            Edge.refused(Edge.EMPTY, Edge.BAD, "set", 0, range[0], 1);
        }
        Edge.bounds(Edge.SOME, Call.of("set", 0, 1, 1), 1, 1, 4, Edge.BAD);
        Edge.refused(Edge.SOME, Edge.BAD, "set", 0, 5, 0);
        Edge.refused(Edge.SOME, Edge.BAD, "set", 0, 0, 0);
    }

    private static void stretchAndOf() {
        Doc.promise(5, "A STRETCH: its number.");
        EvenBags x = new EvenBags();
        int[] yards = {1, 99, 50, 98, 2};
        for (int s = 0; s < 5; s++) {
            Check.due("stretch", x.stretch(yards[s], s % 2 == 1), s);
        }
        Doc.promise(5, "BAD;");
        Edge.bounds(Edge.EMPTY, Call.of("stretch", 1, false), 0, 1, 99, Edge.BAD);
        Edge.bounds(Edge.SOME, Call.of("stretch", 1, true), 0, 1, 99, Edge.BAD);
        Doc.promise(5, "FULL: 5.");
        Check.due("five", x.count(1), 5);
        Edge.refused(Edge.ALL, Edge.FULL, "stretch", 1, false);
        Edge.refused(Edge.ALL, Edge.FULL, "stretch", 99, true);
        Doc.promise(6, "Of a STRETCH: 0 YARDS, 1 whether UPHILL (1, 0).");
        for (int s = 0; s < 5; s++) {
            Check.due("yards", x.of(s, 0), yards[s]);
            Check.due("uphill", x.of(s, 1), s % 2);
        }
        Doc.promise(6, "BAD.");
        for (int what = 0; what < 2; what++) {
            Edge.bounds(Edge.SOME, Call.of("of", 0, what), 0, 0, 3, Edge.BAD);
            Edge.bounds(Edge.ALL, Call.of("of", 0, what), 0, 0, 4, Edge.BAD);
            Edge.refused(Edge.EMPTY, Edge.BAD, "of", 0, what);
        }
        Edge.bounds(Edge.SOME, Call.of("of", 0, 0), 1, 0, 1, Edge.BAD);
    }

    private static void bag() {
        Doc.promise(7, "What a BAG HOLDS (0), where it GIVES (1) becomes v: what it was.");
        EvenBags x = new EvenBags();
        int[] most = {999, 9999};
        for (int what = 0; what < 2; what++) {
            for (int b = 0; b < 3; b++) {
                Check.due("at first", x.bag(b, what, most[what] - b), what == 0 ? 999 : 0);
            }
            for (int b = 0; b < 3; b++) {
                Check.due("what it was", x.bag(b, what, 0), most[what] - b);
                Check.due("what it was", x.bag(b, what, b), 0);
            }
        }
        for (int b = 0; b < 3; b++) {
            Check.due("one is not the other", x.bag(b, 0, 7), b);
            Check.due("one is not the other", x.bag(b, 1, 9), b);
        }
        Doc.promise(7, "BAD.");
        for (int what = 0; what < 2; what++) {
            Edge.bounds(Edge.SOME, Call.of("bag", 0, what, 5), 0, 0, 2, Edge.BAD);
            for (int b = 0; b < 3; b++) {
                Edge.bounds(Edge.SOME, Call.of("bag", b, what, 5), 2, 0, most[what], Edge.BAD);
            }
        }
        Edge.bounds(Edge.SOME, Call.of("bag", 0, 0, 5), 1, 0, 1, Edge.BAD);
        Edge.refused(Edge.SOME, Edge.BAD, "bag", 0, 0, 9999);
    }

    private static void arm() {
        Doc.promise(8, "STRENGTH of an arm (0 left, 1 right) becomes v: what it was.");
        EvenBags x = new EvenBags();
        Check.due("left at first", x.arm(0, 9), 2);
        Check.due("right at first", x.arm(1, 1), 3);
        Check.due("left told", x.count(5), 9);
        Check.due("right told", x.count(6), 1);
        Check.due("left was", x.arm(0, 1), 9);
        Check.due("right was", x.arm(1, 9), 1);
        Doc.promise(8, "BAD.");
        Edge.bounds(Edge.SOME, Call.of("arm", 0, 5), 0, 0, 1, Edge.BAD);
        Edge.bounds(Edge.SOME, Call.of("arm", 0, 5), 1, 1, 9, Edge.BAD);
        Edge.bounds(Edge.SOME, Call.of("arm", 1, 5), 1, 1, 9, Edge.BAD);
    }

    private static void ruleAndOff() {
        Doc.promise(9, "A LAW: its number.");
        EvenBags x = Edge.of("p1,p1");
        for (int k = 0; k < 8; k++) {
            Check.due("rule", x.rule(k % 2, 1 - k % 2, 1), k);
        }
        Doc.promise(9, "BAD;");
        for (int what = 0; what < 2; what++) {
            Edge.bounds(Edge.SOME, Call.of("rule", 0, 5, what), 0, 0, 4, Edge.BAD);
            Edge.refused(Edge.SOME, Edge.BAD, "rule", 6, 4, what);
            Edge.refused(Edge.SOME, Edge.BAD, "rule", Edge.MAX, 4, what);
            Edge.bounds(Edge.SOME, Call.of("rule", 5, 0, what), 1, 0, 4, Edge.BAD);
            Edge.refused(Edge.SOME, Edge.BAD, "rule", 0, 6, what);
            Edge.refused(Edge.EMPTY, Edge.BAD, "rule", 0, 1, what);
            for (int t = 0; t < 6; t++) {
                Edge.refused(Edge.SOME, Edge.BAD, "rule", t, t, what);
            }
        }
        Edge.bounds(Edge.SOME, Call.of("rule", 0, 4, 0), 2, 0, 1, Edge.BAD);
        Doc.promise(9, "FULL: 8.");
        Check.due("eight", x.count(2), 8);
        Edge.refused(Edge.ALL, Edge.FULL, "rule", 0, 1, 0);
        Edge.refused(Edge.ALL, Edge.FULL, "rule", 9, 8, 1);
        Doc.promise(10, "The last LAW is off: how many are left.");
        x = Edge.of("p1,p1");
        x.rule(0, 1, 1);
        x.rule(0, 1, 0);
        Check.due("the last one does not hold", x.lawful(), 2);
        Check.due("one is left", x.off(), 1);
        Check.due("the first one holds", x.lawful(), 0);
        x.set(1, 4, 1);
        Check.due("the first one is left", x.lawful(), 2);
        Check.due("none is left", x.off(), 0);
        Check.due("none is left", x.lawful(), 0);
        Check.due("the first number again", x.rule(0, 1, 0), 0);
        EvenBags y = Edge.ALL.make();
        Check.due("seven are left", y.off(), 7);
        Check.due("one more again", y.rule(0, 9, 1), 7);
        Doc.promise(10, "NONE: there was none.");
        Edge.refused(Edge.EMPTY, Edge.NONE, "off");
        Whole.Making lawless = () -> {
            EvenBags z = Edge.SOME.make();
            z.off();
            z.off();
            return z;
        };
        Edge.refused(lawless, Edge.NONE, "off");
    }

    private static void type() {
        Doc.promise(11, "One letter more behind THE TAPE: how many it has.");
        EvenBags x = new EvenBags();
        Check.due("the first", x.type('i'), 1);
        Check.due("the second", x.type('4'), 2);
        Check.due("behind the others", x.type('2'), 3);
        x.market();
        Check.due("in this order", x.told(0, 0) * 100 + x.told(0, 1), 142);
        Doc.promise(11, "BAD: not 32 .. 126;");
        Edge.bounds(Edge.EMPTY, Call.of("type", 'p' + 0), 0, 32, 126, Edge.BAD);
        Edge.bounds(Edge.SOME, Call.of("type", 'p' + 0), 0, 32, 126, Edge.BAD);
        Edge.refused(Edge.SOME, Edge.BAD, "type", 256 + 'p');
        Edge.refused(Edge.SOME, Edge.BAD, "type", 65536 + 'p');
        Doc.promise(11, "FULL: 80.");
        for (int k = 1; k <= 80; k++) {
            Check.due("type", x.type(k % 2 == 0 ? 32 : 126), k);
        }
        Edge.refused(Edge.ALL, Edge.FULL, "type", 'p' + 0);
        Edge.refused(Edge.ALL, Edge.FULL, "type", 32);
        Edge.refused(Edge.ALL, Edge.FULL, "type", 126);
    }

    /** As SOME, but with an empty TAPE, if none of these letters is typed. */
    private static Whole.Making behind(String text) {
        return () -> {
            EvenBags x = Edge.SOME.make();
            x.market();
            x.restore();
            if (text != null) {
                Check.market(x, text);
            }
            return x;
        };
    }

    private static void market() {
        Doc.promise(12, "THE TAPE, which is empty then, is a MARKET: how many THINGS.");
        EvenBags x = new EvenBags();
        Check.due("one", Check.market(x, "p1"), 1);
        Check.due("empty then", x.type('p'), 1);
        Check.due("a fault", x.market(), -21);
        Check.due("empty behind a fault too", x.type('p'), 1);
        x.market();
        Check.due("ten", Check.market(x, "p1,p1,p1,p1,p1,p1,p1,p1,p1,p1"), 10);
        Check.due("ten came", x.count(0), 10);
        for (int k = 0; k < 78; k++) {
            x.type(' ');
        }
        x.type('f');
        Check.due("the last letter", x.type('9'), 80);
        Check.due("a full tape", x.market(), 1);
        Check.due("all of it", x.told(0, 0) * 10 + x.told(0, 1), 39);
        Doc.promise(12, "A FAULT (all stays).");
        String stays = Whole.of(behind(null));
        for (String text : new String[] {"", " ", "p", "p1,i2@3;4u,5,", "p1,i2;1,2,3,4,5,6", "i9,f9x", "p1;5uu", "s1,s100"}) {
            Check.same("all stays behind '" + text + "'", Whole.of(behind(text)), stays);
        }
    }

    private static void count() {
        Doc.promise(13, "0 THINGS, 1 STRETCHES, 2 LAWS, 3 BARS, 4 YARDS of the whole way, 5 STRENGTH of the left arm, 6 of the right one.");
        int[][] due = {{0, 0, 0, 0, 0, 2, 3}, {6, 4, 2, 2, 43, 4, 3}, {10, 5, 8, 6, 15, 2, 3}};
        EvenBags[] states = {Edge.EMPTY.make(), Edge.SOME.make(), Edge.ALL.make()};
        for (int k = 0; k < 3; k++) {
            for (int what = 0; what < 7; what++) {
                Check.due("count(" + what + ") of state " + k, states[k].count(what), due[k][what]);
            }
        }
        EvenBags longest = new EvenBags();
        for (int s = 0; s < 5; s++) {
            longest.stretch(99, true);
        }
        Check.due("the longest way, uphill", longest.count(4), 495);
        Doc.promise(13, "BAD.");
        Edge.bounds(Edge.SOME, Call.of("count", 0), 0, 0, 6, Edge.BAD);
        Edge.bounds(Edge.EMPTY, Call.of("count", 0), 0, 0, 6, Edge.BAD);
    }

    static void all() {
        newObject();
        thing();
        told();
        set();
        stretchAndOf();
        bag();
        arm();
        ruleAndOff();
        type();
        market();
        count();
    }
}
