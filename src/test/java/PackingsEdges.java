/** The boundary cases of promises 14 to 29, each behind the words of the document that it tests. */
final class PackingsEdges {
    private PackingsEdges() {
    }

    /** Ten THINGS of the greatest WEIGHT, five of the longest STRETCHES, all uphill. */
    private static EvenBags heaviest(int kind) {
        EvenBags x = new EvenBags();
        for (int t = 0; t < 10; t++) {
            x.thing(kind, 99);
        }
        for (int s = 0; s < 5; s++) {
            x.stretch(99, true);
        }
        return x;
    }

    private static void load() {
        Doc.promise(14, "LOAD of a BAG on a STRETCH.");
        EvenBags x = Edge.SOME.make();
        int[][] due = {{27, 25, 23, 12}, {27, 26, 18, 17}, {33, 33, 33, 33}};
        for (int b = 0; b < 3; b++) {
            for (int s = 0; s < 4; s++) {
                Check.due("load(" + b + ", " + s + ")", x.load(b, s), due[b][s]);
            }
        }
        EvenBags y = heaviest(0);
        Check.due("the greatest", y.load(0, 4), 990);
        Check.due("nothing", y.load(1, 4), 0);
        Doc.promise(14, "BAD.");
        Edge.bounds(Edge.SOME, Call.of("load", 0, 0), 0, 0, 2, Edge.BAD);
        Edge.bounds(Edge.SOME, Call.of("load", 0, 0), 1, 0, 3, Edge.BAD);
        Edge.bounds(Edge.ALL, Call.of("load", 0, 0), 1, 0, 4, Edge.BAD);
        Edge.refused(Edge.EMPTY, Edge.BAD, "load", 0, 0);
    }

    private static void lawful() {
        Doc.promise(15, "Why THE PACKING is not LAWFUL: 0 it is, 1 a BAG does not HOLD it, 2 a LAW does not hold, 3 a SOFT THING");
        EvenBags x = Edge.of("p5,s4;1", 0, 1);
        Check.due("it is", x.lawful(), 0);
        x.bag(1, 0, 3);
        Check.due("held no more", x.lawful(), 1);
        x.bag(1, 0, 4);
        Check.due("just held", x.lawful(), 0);
        x.rule(0, 1, 1);
        Check.due("not beside", x.lawful(), 2);
        x.off();
        x.set(1, 4, 0);
        Check.due("a soft one", x.lawful(), 3);
        Check.due("nothing at all", new EvenBags().lawful(), 0);
        Doc.promise(15, "(of several the least).");
        x.rule(0, 1, 0);
        Check.due("a law and a soft one", x.lawful(), 2);
        x.bag(0, 0, 8);
        Check.due("all three", x.lawful(), 1);
        x.off();
        Check.due("not held and a soft one", x.lawful(), 1);
        x.set(1, 4, 1);
        x.rule(0, 1, 1);
        x.bag(0, 0, 4);
        Check.due("not held and a law", x.lawful(), 1);
        Edge.changesNothing(Edge.SOME, Call.of("lawful"));
    }

    private static void pull() {
        Doc.promise(16, "OFF on a STRETCH.");
        EvenBags x = heaviest(0);
        Edge.arms(x, 9, 9);
        Check.due("the greatest", x.pull(4), 8910);
        for (int t = 0; t < 10; t++) {
            x.set(t, 4, 1);
        }
        Check.due("the least", x.pull(0), -8910);
        for (int t = 0; t < 10; t++) {
            x.set(t, 4, 2);
        }
        Check.due("the shoulder pulls nowhere", x.pull(0), 0);
        EvenBags y = Edge.of("p1;1", 1);
        y.arm(0, 1);
        Check.due("one below 0 is no refusal", y.pull(0), -1);
        Doc.promise(16, "BAD less 10000000.");
        Edge.bounds(Edge.SOME, Call.of("pull", 0), 0, 0, 3, -10000001);
        Edge.bounds(Edge.ALL, Call.of("pull", 0), 0, 0, 4, -10000001);
        Edge.refused(Edge.EMPTY, -10000001, "pull", 0);
    }

    private static void uneven() {
        Doc.promise(17, "WORST (0), WHOLE (1).");
        EvenBags x = heaviest(0);
        Edge.arms(x, 9, 9);
        Check.due("the greatest worst", x.uneven(0), 8910);
        Check.due("the greatest whole", x.uneven(1), 8910 * 198 * 5);
        for (int t = 0; t < 10; t++) {
            x.set(t, 4, 1);
        }
        Check.due("the greatest worst, right", x.uneven(0), 8910);
        Check.due("the greatest whole, right", x.uneven(1), 8910 * 198 * 5);
        Doc.promise(17, "BAD.");
        Edge.bounds(Edge.SOME, Call.of("uneven", 0), 0, 0, 1, Edge.BAD);
        Edge.bounds(Edge.EMPTY, Call.of("uneven", 0), 0, 0, 1, Edge.BAD);
    }

    /** Two heavy THINGS that must be apart, and no BAG but the left one holds one of them. */
    private static EvenBags hopeless() {
        EvenBags x = Edge.of("p5,p6;1", 0, 2);
        x.rule(0, 1, 0);
        x.bag(1, 0, 4);
        x.bag(2, 0, 4);
        return x;
    }

    private static void bestAndPack() {
        Doc.promise(18, "BEST: WORST (-2), WHOLE (-1), the BAG of a THING.");
        EvenBags x = Edge.of("p3,p2;10");
        x.bag(2, 0, 0);
        Edge.arms(x, 3, 3);
        Check.due("worst", x.best(-2), 3);
        Check.due("whole", x.best(-1), 30);
        Check.due("the first bag", x.best(0), 0);
        Check.due("the last bag", x.best(1), 1);
        Check.due("asked only", Edge.packing(x), 0);
        EvenBags y = heaviest(0);
        y.bag(1, 0, 0);
        y.bag(2, 0, 0);
        y.arm(1, 9);
        Check.due("the greatest worst", y.best(-2), 8910);
        Check.due("the greatest whole", y.best(-1), 8910 * 198 * 5);
        Check.due("no things: worst", new EvenBags().best(-2), 0);
        Check.due("no things: whole", new EvenBags().best(-1), 0);
        Edge.changesNothing(Edge.SOME, Call.of("best", -2));
        Doc.promise(18, "BAD;");
        Edge.bounds(Edge.SOME, Call.of("best", 0), 0, -2, 5, Edge.BAD);
        Edge.bounds(Edge.EMPTY, Call.of("best", 0), 0, -2, -1, Edge.BAD);
        Doc.promise(18, "NONE: no PACKING is LAWFUL.");
        for (int thing = -2; thing < 2; thing++) {
            Edge.refused(PackingsEdges::hopeless, Edge.NONE, "best", thing);
        }
        EvenBags z = hopeless();
        z.bag(2, 0, 5);
        Check.due("one is lawful", z.best(-2), 18);
        Check.due("that one", Edge.best(z), 20);
        Doc.promise(19, "THE PACKING becomes BEST: its WORST.");
        Check.due("pack", z.pack(), 18);
        Check.due("that one", Edge.packing(z), 20);
        Check.due("its worst", z.uneven(0), 18);
        Check.due("pack", x.pack(), 3);
        Check.due("the packing", Edge.packing(x), 1);
        Check.due("packed again", x.pack(), 3);
        Check.due("no things", new EvenBags().pack(), 0);
        Doc.promise(19, "NONE.");
        Edge.refused(PackingsEdges::hopeless, Edge.NONE, "pack");
    }

    private static void evenest() {
        Doc.promise(20, "EVENEST: OFF (-1), the BAG of a THING.");
        EvenBags x = Edge.of("p7@1,p3;1,1");
        // 7 * 2 less 3 * 3 on the first; on the second the 3 alone, in the strong hand
        Check.due("off", x.evenest(0, -1), 5);
        Check.due("bags", Edge.evenest(x, 0), 10);
        Check.due("off", x.evenest(1, -1), 6);
        Check.due("bags", Edge.evenest(x, 1), 1);
        EvenBags y = heaviest(0);
        Edge.arms(y, 9, 1);
        Check.due("nine to one", y.evenest(4, -1), 0);
        Check.due("the last one alone is right", y.evenest(4, 8) * 10 + y.evenest(4, 9), 1);
        EvenBags z = new EvenBags();
        z.stretch(1, false);
        Check.due("no things", z.evenest(0, -1), 0);
        Edge.changesNothing(Edge.SOME, Call.of("evenest", 0, -1));
        Doc.promise(20, "BAD.");
        Edge.bounds(Edge.SOME, Call.of("evenest", 0, -1), 0, 0, 3, Edge.BAD);
        Edge.bounds(Edge.SOME, Call.of("evenest", 0, 0), 1, -1, 5, Edge.BAD);
        Edge.bounds(Edge.ALL, Call.of("evenest", 0, 0), 0, 0, 4, Edge.BAD);
        Edge.refused(Edge.EMPTY, Edge.BAD, "evenest", 0, -1);
    }

    private static void moved() {
        Doc.promise(21, "MOVED: how many (-1), the BAG of a THING.");
        EvenBags x = Edge.of("p6,p4;10");
        Edge.arms(x, 1, 1);
        Check.due("none", x.moved(0, 10, -1), 0);
        Check.due("none", Edge.moved(x, 0, 10), 0);
        Check.due("one", x.moved(0, 9, -1), 1);
        Check.due("one", Edge.moved(x, 0, 9), 1);
        Check.due("both", x.moved(0, 0, -1), 2);
        Check.due("both", Edge.moved(x, 0, 0), 22);
        Check.due("asked only", Edge.packing(x), 0);
        EvenBags z = new EvenBags();
        z.stretch(1, false);
        Check.due("no things", z.moved(0, 0, -1), 0);
        Edge.changesNothing(Edge.SOME, Call.of("moved", 0, 50, -1));
        Doc.promise(21, "BAD: also the limit not 0 .. 99999;");
        Whole.Making free = () -> Edge.of("p1,p1;1,1");
        Edge.bounds(free, Call.of("moved", 0, 5, -1), 1, 0, 99999, Edge.BAD);
        Edge.bounds(free, Call.of("moved", 0, 5, -1), 0, 0, 1, Edge.BAD);
        Edge.bounds(free, Call.of("moved", 0, 5, 0), 2, -1, 1, Edge.BAD);
        Edge.refused(Edge.SOME, Edge.BAD, "moved", 4, 5, -1);
        Edge.refused(Edge.EMPTY, Edge.BAD, "moved", 0, 0, -1);
        Doc.promise(21, "NONE: by none.");
        for (int thing = -1; thing < 2; thing++) {
            Edge.refused(PackingsEdges::hopeless, Edge.NONE, "moved", 0, 99999, thing);
            Edge.refused(PackingsEdges::uneven21, Edge.NONE, "moved", 0, 1, thing);
        }
        Check.due("at the limit", uneven21().moved(0, 2, -1), 1);
    }

    /** With nothing on the shoulder 6 and 4 are 2 off at least. */
    private static EvenBags uneven21() {
        EvenBags x = Edge.of("p6,p4;10");
        Edge.arms(x, 1, 1);
        x.bag(2, 0, 3);
        return x;
    }

    private static void hands() {
        Doc.promise(22, "HANDS: upper (0), lower number (1).");
        EvenBags x = Edge.of("p1;1");
        Edge.arms(x, 1, 2);
        Edge.fraction("hands", x.hands(0, 0), x.hands(0, 1), 1, 3);
        EvenBags y = heaviest(1);
        Edge.arms(y, 9, 1);
        // 990, 980 .. 950 a yard, 2 * 99 times; nine tenths of 4850 are 4365, of which the last 465 are at 950:
        // 396 yards and 99 * 465 / 950
        Edge.fraction("the greatest", y.hands(0, 0), y.hands(0, 1), 84447, 190);
        Doc.promise(22, "BAD.");
        for (int what = 0; what < 2; what++) {
            Edge.bounds(Edge.SOME, Call.of("hands", 0, what), 0, 0, 2, Edge.BAD);
        }
        Edge.bounds(Edge.SOME, Call.of("hands", 0, 0), 1, 0, 1, Edge.BAD);
        Edge.bounds(Edge.EMPTY, Call.of("hands", 0, 0), 1, 0, 1, Edge.BAD);
    }

    private static void buying() {
        Doc.promise(23, "BUYING: the least (-1), the i-th THING (0 ..).");
        EvenBags x = Edge.of("p5,p1");
        x.set(0, 3, 40);
        x.set(1, 3, 70);
        // the light one first: 30 times 1, then 10 times 6; or 30 times 5, then 20 times 6
        Check.due("the least", x.buying(-1), 90);
        Check.due("the order", Edge.buying(x), 10);
        EvenBags y = heaviest(0);
        for (int t = 0; t < 10; t++) {
            y.set(t, 3, t % 2 * 100);
        }
        Check.due("the greatest", y.buying(-1), 100 * 495 + 50 * 990);
        Check.due("the first", y.buying(0), 0);
        Check.due("the last at that end", y.buying(4), 8);
        Check.due("the last of all", y.buying(9), 9);
        Edge.changesNothing(Edge.SOME, Call.of("buying", -1));
        Doc.promise(23, "BAD: also i beyond;");
        Edge.bounds(Edge.SOME, Call.of("buying", 0), 0, -1, 5, Edge.BAD);
        Edge.bounds(Edge.ALL, Call.of("buying", 0), 0, -1, 9, Edge.BAD);
        Edge.refused(Edge.EMPTY, Edge.BAD, "buying", 0);
        Edge.refused(Edge.EMPTY, Edge.BAD, "buying", -2);
        Doc.promise(23, "0 without THINGS.");
        Check.due("the least", new EvenBags().buying(-1), 0);
        EvenBags z = new EvenBags();
        z.stretch(5, true);
        Check.due("a way alone", z.buying(-1), 0);
        z.image();
        z.thing(0, 5);
        z.set(0, 3, 60);
        Check.due("a thing", z.buying(-1), 50);
        z.restore();
        Check.due("no thing again", z.buying(-1), 0);
    }

    private static EvenBags wet(int gives) {
        EvenBags x = Edge.of("p50,i6,f5@2,s50;2,3u,99", 1, 1, 1, 1);
        x.bag(1, 1, gives);
        return x;
    }

    private static void paper() {
        Doc.promise(24, "PAPER: upper (0), lower number (1).");
        // 11 a yard, then 8, then 4
        Edge.fraction("at once", wet(1).paper(1, 0), wet(1).paper(1, 1), 1, 11);
        Edge.fraction("at the end of one", wet(22).paper(1, 0), wet(22).paper(1, 1), 2, 1);
        Edge.fraction("behind it", wet(23).paper(1, 0), wet(23).paper(1, 1), 17, 8);
        int all = 22 + 24 + 4 * 99;
        Edge.fraction("at the very end", wet(all).paper(1, 0), wet(all).paper(1, 1), 104, 1);
        EvenBags heavy = heaviest(3);
        heavy.bag(0, 1, 9999);
        Edge.fraction("the greatest", heavy.paper(0, 0), heavy.paper(0, 1), 101, 10);
        Doc.promise(24, "BAD;");
        Whole.Making gives = () -> {
            EvenBags x = wet(1);
            Edge.pack(x, 0, 0, 1, 2);
            x.set(3, 1, 1);
            x.thing(1, 5);
            x.set(4, 4, 2);
            x.bag(0, 1, 1);
            x.bag(2, 1, 1);
            return x;
        };
        for (int what = 0; what < 2; what++) {
            Edge.bounds(gives, Call.of("paper", 0, what), 0, 0, 2, Edge.BAD);
        }
        Edge.bounds(gives, Call.of("paper", 0, 0), 1, 0, 1, Edge.BAD);
        Doc.promise(24, "NONE: it does not GIVE.");
        for (int what = 0; what < 2; what++) {
            Edge.refused(Edge.EMPTY, Edge.NONE, "paper", 0, what);
            Edge.refused(() -> wet(0), Edge.NONE, "paper", 1, what);
            Edge.refused(() -> wet(all + 1), Edge.NONE, "paper", 1, what);
            Edge.refused(() -> wet(9999), Edge.NONE, "paper", 1, what);
        }
        EvenBags empty = wet(1);
        empty.bag(0, 1, 1);
        Check.due("an empty bag", empty.paper(0, 0), Edge.NONE);
        Edge.pack(empty, 1, 0, 0, 1);
        Check.due("dry ones alone", empty.paper(1, 0), Edge.NONE);
        EvenBags still = Edge.of("i5");
        still.bag(0, 1, 1);
        Check.due("without a way", still.paper(0, 0), Edge.NONE);
    }

    private static void pole() {
        Doc.promise(25, "A POLE: upper (0), lower number (1).");
        EvenBags x = Edge.of("p99,p1,p98");
        Edge.fraction("the longest", x.pole(1, 0, 999, 0), x.pole(1, 0, 999, 1), 999 * 99, 100);
        Edge.fraction("the shortest", x.pole(0, 1, 1, 0), x.pole(0, 1, 1, 1), 1, 100);
        Edge.fraction("almost alike", x.pole(0, 2, 197, 0), x.pole(0, 2, 197, 1), 98, 1);
        Doc.promise(25, "BAD: also one alike.");
        for (int what = 0; what < 2; what++) {
            Edge.bounds(Edge.SOME, Call.of("pole", 0, 5, 9, what), 0, 0, 4, Edge.BAD);
            Edge.bounds(Edge.SOME, Call.of("pole", 5, 0, 9, what), 1, 0, 4, Edge.BAD);
            Edge.refused(Edge.SOME, Edge.BAD, "pole", 6, 5, 9, what);
            Edge.refused(Edge.SOME, Edge.BAD, "pole", 5, 6, 9, what);
            Edge.bounds(Edge.SOME, Call.of("pole", 0, 1, 9, what), 2, 1, 999, Edge.BAD);
            Edge.refused(Edge.EMPTY, Edge.BAD, "pole", 0, 1, 9, what);
        }
        Edge.bounds(Edge.SOME, Call.of("pole", 0, 1, 9, 0), 3, 0, 1, Edge.BAD);
        for (int t = 0; t < 6; t++) {
            Edge.refused(Edge.SOME, Edge.BAD, "pole", t, t, 9, 0);
        }
    }

    private static void bar() {
        Doc.promise(26, "A BAR: its number.");
        EvenBags x = new EvenBags();
        for (int t = 0; t < 10; t++) {
            x.thing(0, 1);
        }
        Check.due("the first thing and the last", x.bar(0, 9), 0);
        for (int b = 1; b < 6; b++) {
            Check.due("with the last bar", b % 2 == 0 ? x.bar(9 + b, b) : x.bar(b, 9 + b), b);
        }
        Doc.promise(26, "BAD: also one alike;");
        // THINGS 0, 1, 2 and BAR 10 hang, BAR 11 does not
        for (int bad : new int[] {-1, 6, 7, 8, 9, 12, 13, 15, 16, Edge.MIN, Edge.MAX}) {
            Edge.refused(Edge.SOME, Edge.BAD, "bar", bad, 3);
            Edge.refused(Edge.SOME, Edge.BAD, "bar", 3, bad);
        }
        for (int good : new int[] {4, 5, 11}) {
            Edge.accepted(Edge.SOME, Call.of("bar", good, 3));
            Edge.accepted(Edge.SOME, Call.of("bar", 3, good));
        }
        for (int alike : new int[] {0, 3, 5, 10, 11}) {
            Edge.refused(Edge.SOME, Edge.BAD, "bar", alike, alike);
        }
        Edge.refused(Edge.EMPTY, Edge.BAD, "bar", 0, 1);
        Doc.promise(26, "NOT: one hangs already;");
        for (int hangs : new int[] {0, 1, 2, 10}) {
            Edge.refused(Edge.SOME, Edge.NOT, "bar", hangs, 3);
            Edge.refused(Edge.SOME, Edge.NOT, "bar", 3, hangs);
        }
        Edge.refused(Edge.SOME, Edge.NOT, "bar", 0, 1);
        Doc.promise(26, "FULL: 6.");
        Check.due("six", x.count(3), 6);
        for (int[] free : new int[][] {{7, 8}, {15, 9}, {8, 15}}) {
            Edge.refused(Edge.ALL, Edge.FULL, "bar", free[0], free[1]);
        }
    }

    private static void hung() {
        Doc.promise(27, "A BAR is HUNG: upper (0), lower number (1), all WEIGHT of it (2).");
        EvenBags x = heaviest(0);
        x.bar(0, 1);
        for (int b = 1; b < 6; b++) {
            x.bar(b + 1, 9 + b);
        }
        Check.due("the greatest weight", x.hung(5, 2), 7 * 99);
        Edge.fraction("six to one", x.hung(5, 0), x.hung(5, 1), 360, 7);
        Edge.fraction("alike", x.hung(0, 0), x.hung(0, 1), 30, 1);
        EvenBags y = Edge.of("p99,p1");
        y.bar(0, 1);
        Edge.fraction("the nearest", y.hung(0, 0), y.hung(0, 1), 3, 5);
        y = Edge.of("p1,p99");
        y.bar(0, 1);
        Edge.fraction("the farthest", y.hung(0, 0), y.hung(0, 1), 297, 5);
        Check.due("all weight", y.hung(0, 2), 100);
        Doc.promise(27, "BAD.");
        for (int what = 0; what < 3; what++) {
            Edge.bounds(Edge.SOME, Call.of("hung", 0, what), 0, 0, 1, Edge.BAD);
            Edge.bounds(Edge.ALL, Call.of("hung", 0, what), 0, 0, 5, Edge.BAD);
            Edge.refused(Edge.EMPTY, Edge.BAD, "hung", 0, what);
        }
        Edge.bounds(Edge.SOME, Call.of("hung", 0, 0), 1, 0, 2, Edge.BAD);
    }

    /** SOME with another IMAGE, and then with as much changed as a session can. */
    private static EvenBags changed() {
        EvenBags x = Edge.SOME.make();
        x.image();
        x.thing(2, 9);
        x.set(0, 1, 44);
        x.set(1, 2, 0);
        x.set(2, 3, 1);
        x.set(3, 4, 2);
        x.stretch(3, true);
        x.bag(0, 0, 3);
        x.bag(0, 1, 4);
        x.arm(0, 9);
        x.arm(1, 8);
        x.off();
        x.off();
        x.rule(4, 2, 0);
        x.bar(11, 3);
        return x;
    }

    /** The same, and then another market with other LAWS and BARS, which its "p1" on THE TAPE begins. */
    private static EvenBags anotherMarket() {
        EvenBags x = changed();
        Check.due("a market", x.market(), 1);
        x.type('p');
        x.type('1');
        for (int t = 0; t < 4; t++) {
            x.thing(3, 9);
        }
        x.rule(3, 4, 0);
        x.rule(4, 2, 1);
        x.bar(4, 3);
        x.bar(2, 10);
        return x;
    }

    private static EvenBags imaged() {
        EvenBags x = Edge.SOME.make();
        x.image();
        return x;
    }

    private static EvenBags restored(Whole.Making making) {
        EvenBags x = making.make();
        x.restore();
        return x;
    }

    private static void imageAndRestore() {
        Doc.promise(28, "All but SHEETS, THE TAPE is kept as an IMAGE: 1.");
        Check.due("of nothing", new EvenBags().image(), 1);
        Check.due("of something", Edge.SOME.make().image(), 1);
        EvenBags x = Edge.SOME.make();
        x.image();
        Check.due("again", x.image(), 1);
        x.drop(1);
        x.sheet(0, 0, 2);
        x.type('7');
        x.restore();
        Check.due("a dropped sheet is not kept", x.drop(1), Edge.NULL);
        Check.due("a new sheet stays", x.drop(0), 2);
        Check.due("the tape goes on", x.type(' '), 4);
        Check.due("the tape is not kept", x.market(), 1);
        Check.due("the tape is not kept", x.told(0, 1), 17);
        Doc.promise(29, "All is as it was then: 1.");
        Check.due("restore", changed().restore(), 1);
        String imaged = Whole.of(PackingsEdges::imaged);
        Check.same("all is as it was", Whole.of(() -> restored(PackingsEdges::changed)), imaged);
        Check.same("all is as it was", Whole.of(() -> restored(PackingsEdges::anotherMarket)), imaged);
        EvenBags y = restored(PackingsEdges::anotherMarket);
        Check.due("restored again", y.restore(), 1);
        Check.due("six things, not one", y.count(0), 6);
        Check.due("laws, bars behind a market", y.count(2) * 10 + y.count(3), 22);
        EvenBags z = new EvenBags();
        z.image();
        z.thing(1, 9);
        z.set(0, 3, 99);
        z.set(0, 4, 2);
        z.restore();
        Check.due("nothing again", z.count(0), 0);
        Check.due("the first again", z.thing(0, 1), 0);
        Check.due("as a new one", z.told(0, 3) * 10 + z.told(0, 4), 500);
        Doc.promise(29, "NONE: there is none.");
        Edge.refused(Edge.EMPTY, Edge.NONE, "restore");
        Edge.refused(Edge.ALL, Edge.NONE, "restore");
    }

    /** Ten THINGS in pairs, of which one pair is left at each of the five stops. */
    private static EvenBags pairs() {
        EvenBags x = new EvenBags();
        for (int t = 0; t < 10; t++) {
            x.thing(0, 10);
            x.set(t, 2, 5 - t / 2);
        }
        for (int s = 0; s < 5; s++) {
            x.stretch(9, s % 2 == 0);
        }
        Edge.arms(x, 1, 1);
        return x;
    }

    /** What is asked of all PACKINGS, where there are as many THINGS and STRETCHES as can be. */
    private static void allPlacesTaken() {
        Check.about("all places taken");
        EvenBags x = pairs();
        for (int s = 0; s < 5; s++) {
            Check.due("load", x.load(0, s), 100 - 20 * s);
        }
        Check.due("worst", x.uneven(0), 100);
        Check.due("best", x.best(-2) + x.best(-1), 0);
        Check.due("best: each pair in both hands", Edge.best(x), 101010101);
        Check.due("evenest, all", x.evenest(0, -1), 0);
        Check.due("evenest, all: the last five right", Edge.evenest(x, 0), 11111);
        Check.due("evenest, the last pair alone", Edge.evenest(x, 4), 100000000);
        Check.due("moved, all", x.moved(0, 0, -1), 5);
        Check.due("moved, all", Edge.moved(x, 0, 0), 101010101);
        Check.due("moved, the last stretch alone", x.moved(4, 0, -1), 1);
        Check.due("moved, the last stretch alone", Edge.moved(x, 4, 0), 100000000);
        Check.due("moved, the last two", Edge.moved(x, 3, 0), 101000000);
        x.sheet(0, 0, 5);
        // each pair in both hands, this way or that, or on the shoulder
        Check.due("pulled", x.pulled(0, 0, 0, 0), 243);
        Check.due("pulled, the first", x.pulled(0, 0, 0, 1), 6561 + 729 + 81 + 9 + 1);
        Check.due("pulled, none is sure", x.pulled(0, 0, 0, 2), 0);
        x.bag(2, 0, 0);
        Check.due("pulled without the shoulder", x.pulled(0, 0, 0, 0), 32);
        for (int t = 0; t < 8; t += 2) {
            x.rule(t, t + 2, 1);
            x.rule(t + 3, t + 1, 1);
        }
        Check.due("pulled by all laws", x.pulled(0, 0, 0, 0), 2);
        Check.due("pack", x.pack(), 0);
        Check.due("packed", Edge.packing(x), 101010101);
    }

    /** The first questions are the last ones too, so that a change is between two like ones. */
    private static String asked(EvenBags x) {
        StringBuilder s = new StringBuilder();
        s.append(x.moved(1, 61, -1)).append(' ').append(x.pulled(2, 0, 0, 0));
        for (int t = -2; t < 7; t++) {
            s.append(' ').append(x.best(t));
            s.append(' ').append(x.buying(t));
            s.append(' ').append(x.evenest(0, t));
            s.append(' ').append(x.moved(0, 60, t));
            s.append(' ').append(x.moved(1, 60, t));
            s.append(' ').append(x.moved(1, 61, t));
        }
        for (int k = 0; k < 3; k++) {
            s.append(' ').append(x.hands(k, 0));
            s.append(' ').append(x.paper(k, 0));
            s.append(' ').append(x.hung(k, 0));
            s.append(' ').append(x.tray(1, 2, 0, 50, k));
            s.append(' ').append(x.pulled(1, 2, 0, k));
            s.append(' ').append(x.pulled(2, 0, 0, k));
            s.append(' ').append(x.load(k, 1));
            s.append(' ').append(x.pull(k));
            s.append(' ').append(x.uneven(k));
        }
        return s.append(' ').append(x.lawful()).toString();
    }

    /** What has been asked ahead of a change is not answered again behind it. */
    private static void askedAgain() {
        Check.about("asked again behind a change");
        Call[] changes = {Call.of("thing", 0, 1), Call.of("set", 0, 1, 1), Call.of("set", 0, 2, 1), Call.of("set", 0, 3, 1),
            Call.of("set", 0, 4, 2), Call.of("stretch", 3, true), Call.of("bag", 2, 0, 13), Call.of("bag", 1, 1, 5),
            Call.of("arm", 0, 9), Call.of("arm", 1, 9), Call.of("rule", 2, 4, 1), Call.of("off"), Call.of("market"), Call.of("pack"),
            Call.of("bar", 3, 4), Call.of("restore"), Call.of("lay", 2, 0, 1), Call.of("film", 1, 2, 0),
            Call.of("item", 1, 2, 0, 3), Call.of("copy", 1, 1, 1, 0, 8), Call.of("sheet", 1, 2, 8),
            Call.of("sheet", 2, 3, 8), Call.of("drop", 1)};
        for (Call change : changes) {
            String ahead = asked(Edge.SOME.make());
            Check.due(change + " makes a difference", !changedBehind(false, change).equals(ahead));
            Check.same(change.toString(), changedBehind(true, change), changedBehind(false, change));
            for (Call another : changes) {
                Check.same(change + ", " + another, changedBehind(true, change, another), changedBehind(false, change, another));
            }
        }
    }

    /** What is asked behind these changes, perhaps with the same questions ahead of them. */
    private static String changedBehind(boolean askedAhead, Call... changes) {
        EvenBags x = Edge.SOME.make();
        if (askedAhead) {
            asked(x);
        }
        for (Call change : changes) {
            change.on(x);
        }
        return asked(x);
    }

    static void all() {
        allPlacesTaken();
        askedAgain();
        load();
        lawful();
        pull();
        uneven();
        bestAndPack();
        evenest();
        moved();
        hands();
        buying();
        paper();
        pole();
        bar();
        hung();
        imageAndRestore();
    }
}
