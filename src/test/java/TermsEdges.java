/** The boundary cases of the terms, each behind the words of the document that it tests. */
final class TermsEdges {
    private TermsEdges() {
    }

    // ---- answers

    private static void names() {
        Doc.terms("Answers below 0,");
        Doc.terms("BAD -1 (a number is not as told, there is no such thing), NOT -2 (as told), FULL -3, NONE -4 (as told), CAST -12");
        Doc.terms("(of SHEETS another LANE);");
        Doc.terms("NULL -11, INDEX -13, SIZE -14");
        int[] all = {EvenBags.BAD, EvenBags.NOT, EvenBags.FULL, EvenBags.NONE, EvenBags.CAST, EvenBags.NULL, EvenBags.INDEX, EvenBags.SIZE};
        int[] due = {-1, -2, -3, -4, -12, -11, -13, -14};
        for (int k = 0; k < 8; k++) {
            Check.due("answer " + k, all[k], due[k]);
        }
        EvenBags x = Edge.SOME.make();
        Check.due("a number is not as told", x.thing(4, 1), -1);
        Check.due("there is no such thing", x.told(6, 0), -1);
        Check.due("not", x.bar(0, 3), -2);
        Check.due("full", Edge.ALL.make().thing(0, 1), -3);
        Check.due("none", new EvenBags().off(), -4);
        Check.due("null", x.item(0, 0, 0, 0), -11);
        Check.due("cast", x.item(1, 0, 0, 0), -12);
        Check.due("index", x.item(1, 2, 9, 0), -13);
        Check.due("size", x.sheet(0, 0, -1), -14);
    }

    private static EvenBags fullTapeAndNoWay() {
        EvenBags x = Edge.ALL.make();
        x.bag(0, 0, 0);
        x.bag(1, 0, 0);
        x.bag(2, 0, 0);
        return x;
    }

    private static void firstNamed() {
        Doc.terms("of several the first that a call names:");
        Edge.refused(Edge.ALL, Edge.BAD, "thing", 4, 5);
        Edge.refused(Edge.ALL, Edge.BAD, "thing", -1, 5);
        Edge.refused(Edge.ALL, Edge.BAD, "thing", 0, 0);
        Edge.refused(Edge.ALL, Edge.BAD, "thing", 0, 100);
        Edge.refused(Edge.ALL, Edge.BAD, "stretch", 0, true);
        Edge.refused(Edge.ALL, Edge.BAD, "stretch", 100, false);
        Edge.refused(Edge.ALL, Edge.BAD, "rule", 0, 0, 0);
        Edge.refused(Edge.ALL, Edge.BAD, "rule", 0, 10, 0);
        Edge.refused(Edge.ALL, Edge.BAD, "rule", -1, 1, 0);
        Edge.refused(Edge.ALL, Edge.BAD, "rule", 0, 1, 2);
        Edge.refused(Edge.ALL, Edge.BAD, "type", 31);
        Edge.refused(Edge.ALL, Edge.BAD, "type", 127);
        // BAD; NOT; FULL of bar: BARS 10 .. 14 hang, 15 does not; THINGS 7, 8, 9 do not
        Edge.refused(Edge.ALL, Edge.BAD, "bar", 16, 7);
        Edge.refused(Edge.ALL, Edge.BAD, "bar", 0, 16);
        Edge.refused(Edge.ALL, Edge.BAD, "bar", 0, 0);
        Edge.refused(Edge.ALL, Edge.BAD, "bar", 7, 7);
        Edge.refused(Edge.ALL, Edge.NOT, "bar", 0, 7);
        Edge.refused(Edge.ALL, Edge.NOT, "bar", 7, 14);
        Edge.refused(Edge.SOME, Edge.BAD, "bar", 0, 12);
        Edge.refused(Edge.SOME, Edge.BAD, "bar", 10, 10);
        Whole.Making unlawful = TermsEdges::fullTapeAndNoWay;
        Edge.refused(unlawful, Edge.BAD, "best", 10);
        Edge.refused(unlawful, Edge.BAD, "best", -3);
        Edge.refused(unlawful, Edge.BAD, "moved", 5, 0, 0);
        Edge.refused(unlawful, Edge.BAD, "moved", 0, -1, 0);
        Edge.refused(unlawful, Edge.BAD, "moved", 0, 100000, 0);
        Edge.refused(unlawful, Edge.BAD, "moved", 0, 0, 10);
        Edge.refused(unlawful, Edge.BAD, "moved", 0, 0, -2);
        Edge.refused(unlawful, Edge.BAD, "paper", 3, 0);
        Edge.refused(unlawful, Edge.BAD, "paper", 0, 2);
        Edge.refused(unlawful, Edge.BAD, "pulled", 0, 0, 0, 3);
        Edge.refused(unlawful, Edge.NONE, "pulled", 0, 0, 0, 1);
        Edge.refused(Edge.SOME, Edge.BAD, "sheet", 4, 0, -1);
        Edge.refused(Edge.SOME, Edge.BAD, "sheet", 0, 4, -1);
    }

    /** SHEET 1 is of bytes, 9 items, the first of which is no THING and no BAG; SHEET 2 of shorts; SHEET 0 is missing. */
    private static EvenBags spoilt() {
        EvenBags x = Edge.of("p1,p2;5");
        Check.fill(x, 1, 0, 77, 77, -1, -1, -1, -1, -1, -1, 77);
        Check.fill(x, 2, 1, 0, 0);
        return x;
    }

    private static void machineOrder() {
        Doc.terms("what the machine finds:");
        Doc.terms("(NULL, CAST, INDEX, SIZE in this order).");
        Whole.Making state = TermsEdges::spoilt;
        Call[] takers = {Call.of("tray", 1, 0, 0, 0, 0), Call.of("lay", 1, 0, 0)};
        for (Call taker : takers) {
            Edge.refused(state, taker, Edge.NOT);
            Edge.refused(state, taker.but(2, -1), Edge.INDEX);
            Edge.refused(state, taker.but(2, 8), Edge.INDEX);
            Edge.refused(state, taker.but(2, 9), Edge.INDEX);
            Edge.refused(state, taker.but(1, 1), Edge.CAST);
            Edge.refused(state, taker.but(1, 1).but(2, 9), Edge.CAST);
            Edge.refused(state, taker.but(0, 0), Edge.NULL);
            Edge.refused(state, taker.but(0, 0).but(2, 9), Edge.NULL);
            Edge.refused(state, taker.but(0, 0).but(1, 4), Edge.BAD);
            Edge.refused(state, taker.but(0, 4).but(2, 9), Edge.BAD);
            Edge.refused(state, taker.but(1, 4).but(2, 9), Edge.BAD);
        }
        Edge.refused(state, Edge.BAD, "tray", 1, 0, 0, 10000, 0);
        Edge.refused(state, Edge.BAD, "tray", 1, 0, 9, 0, 3);
        Edge.refused(state, Edge.BAD, "tray", 1, 1, 9, -1, 0);
        Edge.refused(state, Edge.NULL, "copy", 0, 9, 1, 0, 1);
        Edge.refused(state, Edge.NULL, "copy", 2, 9, 0, 0, -1);
        Edge.refused(state, Edge.CAST, "copy", 2, 9, 1, 0, -1);
        Edge.refused(state, Edge.INDEX, "copy", 2, 0, 2, 0, -1);
    }

    private static void farBelow() {
        Doc.terms("Where a told thing may be below 0, refused ones are 10000000 less (-10000001 and so on).");
        EvenBags x = Edge.of("p1;1", 1);
        Check.due("told", x.pull(0), -2);
        Check.due("refused", x.pull(1), -10000001);
        Check.due("refused", x.pull(-1), -10000001);
        // no other call tells what may be below 0: OFF of EVENEST is without its sign
        Check.due("evenest", x.evenest(0, -1), 2);
        Check.due("evenest is refused by BAD alone", x.evenest(1, -1), -1);
    }

    private static void refusedCalls() {
        Doc.terms("What is refused changes nothing, but as told.");
        // each refusal of each promise is tried so where it is named; here those of a new and of a full object
        Call[] all = {Call.of("thing", 0, 0), Call.of("told", 10, 0), Call.of("set", 10, 1, 1), Call.of("stretch", 0, true),
            Call.of("of", 5, 0), Call.of("bag", 3, 0, 0), Call.of("arm", 2, 1), Call.of("rule", 1, 1, 0), Call.of("type", 31),
            Call.of("count", 7), Call.of("load", 3, 0), Call.of("uneven", 2), Call.of("best", 10),
            Call.of("evenest", 5, 0), Call.of("moved", 5, 0, 0), Call.of("hands", 3, 0), Call.of("buying", 10), Call.of("paper", 3, 0),
            Call.of("pole", 1, 1, 1, 0), Call.of("bar", 1, 1), Call.of("hung", 6, 0), Call.of("tray", 4, 0, 0, 0, 0),
            Call.of("pulled", 4, 0, 0, 0), Call.of("film", 4, 0, 0), Call.of("lay", 4, 0, 0), Call.of("sheet", 4, 0, 1),
            Call.of("drop", 4), Call.of("item", 4, 0, 0, 1), Call.of("copy", 4, 0, 0, 0, 0)};
        for (Call call : all) {
            Edge.refused(Edge.EMPTY, call, Edge.BAD);
            Edge.refused(Edge.ALL, call, Edge.BAD);
        }
        Edge.refused(Edge.EMPTY, -10000001, "pull", 5);
        Edge.refused(Edge.ALL, -10000001, "pull", 5);
    }

    /** A call that is asked and answered changes nothing either, but where its promise says so. */
    private static void askers() {
        Doc.terms("Sets are bits.");
        EvenBags x = Edge.of("p1,p1,p1;1", 0, 1, 2);
        Check.fill(x, 0, 0, 0, -1, 1, -1, -1, -1, -1, 2);
        Check.due("places 0, 2, 7", x.tray(0, 0, 0, 9999, 2), 1 + 4 + 128);
        x.set(1, 1, 5);
        // 15 and 3: one of the others is left too, the other one on the shoulder
        Check.fill(x, 1, 0, 18);
        Check.due("thing 1 alone is sure", x.pulled(1, 0, 0, 2), 2);
        for (Call call : new Call[] {Call.of("told", 0, 0), Call.of("of", 0, 0), Call.of("count", 0), Call.of("load", 0, 0),
            Call.of("lawful"), Call.of("pull", 0), Call.of("uneven", 1), Call.of("best", 0), Call.of("evenest", 0, 0),
            Call.of("moved", 0, 60, 0), Call.of("hands", 0, 0), Call.of("buying", 0), Call.of("paper", 1, 0),
            Call.of("pole", 0, 1, 5, 0), Call.of("hung", 1, 0), Call.of("tray", 1, 2, 0, 50, 1), Call.of("tray", 1, 2, 0, 50, 2),
            Call.of("pulled", 1, 2, 0, 0), Call.of("copy", 1, 0, 1, 0, 9)}) {
            Edge.changesNothing(Edge.SOME, call);
        }
    }

    private static void fractions() {
        Doc.terms("Fractions are told by two numbers in lowest terms, the lower one 1 or more (0 is 0 of 1).");
        EvenBags x = Edge.of("p6,p3");
        Edge.fraction("3 * 30 of 9", x.pole(0, 1, 30, 0), x.pole(0, 1, 30, 1), 10, 1);
        Edge.fraction("3 * 4 of 9", x.pole(0, 1, 4, 0), x.pole(0, 1, 4, 1), 4, 3);
        Edge.fraction("6 * 1 of 9", x.pole(1, 0, 1, 0), x.pole(1, 0, 1, 1), 2, 3);
        Edge.fraction("0", x.hands(0, 0), x.hands(0, 1), 0, 1);
        x.bar(0, 1);
        Edge.fraction("3 * 60 of 9", x.hung(0, 0), x.hung(0, 1), 20, 1);
        EvenBags y = Edge.of("f6,i4;9");
        y.bag(0, 1, 25);
        Edge.fraction("25 of 10", y.paper(0, 0), y.paper(0, 1), 5, 2);
        EvenBags z = Edge.of("p3;4");
        Edge.arms(z, 4, 4);
        Edge.fraction("half of 4", z.hands(0, 0), z.hands(0, 1), 2, 1);
        // all lengths and pairs of small weights: no number above 1 divides both
        for (int a = 1; a <= 12; a++) {
            for (int length = 1; length <= 12; length++) {
                z = Edge.of("p1,p5");
                z.set(0, 1, a);
                int upper = z.pole(0, 1, length, 0);
                int lower = z.pole(0, 1, length, 1);
                Check.due("the same", upper * (a + 5), 5 * length * lower);
                for (int d = 2; d <= lower; d++) {
                    Check.due("lowest terms", upper % d != 0 || lower % d != 0);
                }
            }
        }
    }

    // ---- 1

    private static void stretches() {
        Doc.terms("==== 1 STRETCHES 0 .. 4, as they come, have YARDS (1 .. 99), are UPHILL or not (then YARDS count twice).");
        EvenBags x = new EvenBags();
        for (int s = 0; s < 5; s++) {
            Check.due("as they come", x.stretch(s == 4 ? 99 : 1, s == 2), s);
        }
        Check.due("one more", x.stretch(1, false), Edge.FULL);
        Check.due("no yards", new EvenBags().stretch(0, false), Edge.BAD);
        Check.due("a hundred yards", new EvenBags().stretch(100, false), Edge.BAD);
        Check.due("not uphill", Edge.of("p1;10").uneven(1), 30);
        Check.due("uphill", Edge.of("p1;10u").uneven(1), 60);
        EvenBags y = Edge.of("p1;10,10u");
        // 10 and 20, of which 12 are left
        Edge.fraction("uphill", y.hands(0, 0), y.hands(0, 1), 11, 1);
    }

    private static void things() {
        Doc.terms("THINGS 0 .. 9, as they come, have a WEIGHT (1 .. 99), a STOP (0 .. 5; 5 at first):");
        EvenBags x = new EvenBags();
        for (int t = 0; t < 10; t++) {
            Check.due("as they come", x.thing(0, t == 9 ? 99 : 1), t);
            Check.due("stop at first", x.told(t, 2), 5);
        }
        Check.due("one more", x.thing(0, 1), Edge.FULL);
        Check.due("no weight", new EvenBags().thing(0, 0), Edge.BAD);
        Check.due("a weight of a hundred", new EvenBags().thing(0, 100), Edge.BAD);
        Doc.terms("they are carried on STRETCHES of lesser numbers alone;");
        for (int kind = 0; kind < 4; kind += 2) {
            for (int stop = 0; stop <= 5; stop++) {
                EvenBags y = Edge.of("p1;1,1,1,1,1");
                y.thing(kind, 5);
                y.set(1, 2, stop);
                y.set(1, 4, 2);
                for (int s = 0; s < 5; s++) {
                    Check.due("stop " + stop + " on stretch " + s, y.load(2, s), s < stop ? 5 : 0);
                }
            }
        }
        Doc.terms("a STALL (-50 .. 50; 0 at first);");
        EvenBags z = Edge.of("p2");
        Check.due("at first", z.told(0, 3), 50);
        Check.due("at first", z.buying(-1), 0);
        for (int stall : new int[] {-50, -1, 0, 1, 50}) {
            z.set(0, 3, stall + 50);
            Check.due("stall " + stall, z.buying(-1), 2 * Math.abs(stall));
        }
        Check.due("-51", z.set(0, 3, -1), Edge.BAD);
        Check.due("51", z.set(0, 3, 101), Edge.BAD);
    }

    private static void loads(int kind, int weight, int... due) {
        EvenBags x = Edge.of("p1;1,2u,3,4u,5");
        x.thing(kind, weight);
        x.set(1, 4, 2);
        for (int s = 0; s < 5; s++) {
            Check.due("kind " + kind + ", " + weight + " on stretch " + s, x.load(2, s), due[s]);
        }
    }

    private static void kinds() {
        Doc.terms("are of a KIND, which tells the LOAD on a STRETCH on which they are carried: 0 PLAIN: WEIGHT.");
        loads(0, 1, 1, 1, 1, 1, 1);
        loads(0, 99, 99, 99, 99, 99, 99);
        Doc.terms("Below it 1 ICE: 1 less for each STRETCH ahead (0 at least),");
        loads(1, 99, 99, 98, 97, 96, 95);
        loads(1, 5, 5, 4, 3, 2, 1);
        loads(1, 4, 4, 3, 2, 1, 0);
        loads(1, 3, 3, 2, 1, 0, 0);
        loads(1, 1, 1, 0, 0, 0, 0);
        Doc.terms("2 SOFT: as PLAIN;");
        loads(2, 1, 1, 1, 1, 1, 1);
        loads(2, 99, 99, 99, 99, 99, 99);
        Doc.terms("3 FISH (below ICE): 2 less for each (0 at least).");
        loads(3, 99, 99, 97, 95, 93, 91);
        loads(3, 9, 9, 7, 5, 3, 1);
        loads(3, 8, 8, 6, 4, 2, 0);
        loads(3, 7, 7, 5, 3, 1, 0);
        loads(3, 3, 3, 1, 0, 0, 0);
        loads(3, 2, 2, 0, 0, 0, 0);
        loads(3, 1, 1, 0, 0, 0, 0);
        Doc.terms("ICE and FISH are WET.");
        for (int kind = 0; kind < 4; kind++) {
            EvenBags x = new EvenBags();
            x.thing(kind, 10);
            x.stretch(9, false);
            x.bag(0, 1, 10);
            Check.due("kind " + kind, x.paper(0, 0), kind % 2 == 1 ? 1 : Edge.NONE);
        }
    }

    private static void bags() {
        Doc.terms("BAGS are 0 LEFT, 1 RIGHT, 2 SHOULDER;");
        int[] pulls = {21, -14, 0};
        for (int b = 0; b < 3; b++) {
            Check.due("pull of bag " + b, Edge.of("p7;1", b).pull(0), pulls[b]);
            Check.due("load of bag " + b, Edge.of("p7;1", b).load(b, 0), 7);
        }
        Check.due("no bag", Edge.of("p7;1").set(0, 4, 3), Edge.BAD);
        Doc.terms("they HOLD so much (0 .. 999; 999 at first),");
        for (int b = 0; b < 3; b++) {
            EvenBags x = Edge.of("p1;1", b);
            Check.due("at first", x.bag(b, 0, 0), 999);
            Check.due("0 holds nothing", x.lawful(), 1);
            x.set(0, 2, 0);
            Check.due("nothing is held by 0", x.lawful(), 0);
            Check.due("1000", x.bag(b, 0, 1000), Edge.BAD);
            Check.due("-1", x.bag(b, 0, -1), Edge.BAD);
        }
        EvenBags heavy = new EvenBags();
        heavy.stretch(1, false);
        for (int t = 0; t < 10; t++) {
            heavy.thing(0, 99);
        }
        Check.due("999 hold all that can be", heavy.lawful(), 0);
        heavy.bag(0, 0, 990);
        Check.due("990 of 990", heavy.lawful(), 0);
        heavy.bag(0, 0, 989);
        Check.due("990 of 989", heavy.lawful(), 1);
        Doc.terms("and GIVE (0: never, as at first, to 9999).");
        EvenBags wet = Edge.of("i99,i99,i99,i99,i99,i99,i99,i99,i99,i99;99,99,99,99,99");
        Check.due("never, as at first", wet.paper(0, 0), Edge.NONE);
        Check.due("what it was", wet.bag(0, 1, 9999), 0);
        Edge.fraction("9999 of 990 a yard", wet.paper(0, 0), wet.paper(0, 1), 101, 10);
        Check.due("10000", wet.bag(0, 1, 10000), Edge.BAD);
        Check.due("-1", wet.bag(0, 1, -1), Edge.BAD);
        Check.due("never again", wet.bag(0, 1, 0), 9999);
        Check.due("never again", wet.paper(0, 1), Edge.NONE);
    }

    private static void laws() {
        Doc.terms("LAWS 0 .. 7, as they come, are of two unlike THINGS:");
        EvenBags x = Edge.of("p1,p1,p1");
        for (int k = 0; k < 8; k++) {
            Check.due("as they come", x.rule(k % 3, (k + 1) % 3, 1), k);
        }
        Check.due("one more", x.rule(0, 1, 1), Edge.FULL);
        Check.due("alike", Edge.of("p1").rule(0, 0, 1), Edge.BAD);
        Doc.terms("APART (0): never in one BAG, BESIDE (1): in one BAG always.");
        for (int a = 0; a < 3; a++) {
            for (int b = 0; b < 3; b++) {
                for (int turned = 0; turned < 2; turned++) {
                    EvenBags apart = Edge.of("p1,p1", a, b);
                    apart.rule(turned, 1 - turned, 0);
                    Check.due("apart in " + a + " and " + b, apart.lawful(), a == b ? 2 : 0);
                    EvenBags beside = Edge.of("p1,p1", a, b);
                    beside.rule(turned, 1 - turned, 1);
                    Check.due("beside in " + a + " and " + b, beside.lawful(), a == b ? 0 : 2);
                }
            }
        }
        Check.due("what", Edge.of("p1,p1").rule(0, 1, 2), Edge.BAD);
        Doc.terms("STRENGTH of the left arm is 2, of the right one 3 at first (1 .. 9 each).");
        EvenBags y = Edge.of("p1,p1;1", 0, 2);
        Check.due("the right one at first", y.pull(0), 3);
        y.set(0, 4, 1);
        Check.due("the left one at first", y.pull(0), -2);
        for (int strength : new int[] {1, 9}) {
            Edge.arms(y, strength, strength);
            Edge.pack(y, 0, 2);
            Check.due("right " + strength, y.pull(0), strength);
            Edge.pack(y, 1, 2);
            Check.due("left " + strength, y.pull(0), -strength);
        }
        for (int arm = 0; arm < 2; arm++) {
            Check.due("0", y.arm(arm, 0), Edge.BAD);
            Check.due("10", y.arm(arm, 10), Edge.BAD);
        }
    }

    private static void lawfulPackings() {
        Doc.terms("A PACKING is a BAG for each THING. THE PACKING is a told one (LEFT for each as it comes).");
        EvenBags x = Edge.of("p1", 2);
        x.thing(0, 1);
        Check.due("left as it comes", x.told(1, 4), 0);
        Check.due("the other one stays", x.told(0, 4), 2);
        Check.market(x, "p1,p2");
        Check.due("left as they come", Edge.packing(x), 0);
        Doc.terms("It is LAWFUL, if on no STRETCH LOADS in a BAG are together more than it HOLDS,");
        // together 9 on the first, 5 + 3 on the second, and so on: 9, 8, 7, 6, 5
        for (int b = 0; b < 3; b++) {
            EvenBags y = Edge.of("p5,i4;1,1,1,1,1", b, b);
            y.bag(b, 0, 9);
            Check.due("just so much", y.lawful(), 0);
            y.bag(b, 0, 8);
            Check.due("one more on the first alone", y.lawful(), 1);
            y.set(1, 4, (b + 1) % 3);
            Check.due("one of them", y.lawful(), 0);
        }
        EvenBags still = Edge.of("p5,i4");
        still.bag(0, 0, 0);
        Check.due("no stretch", still.lawful(), 0);
        still.stretch(1, false);
        Check.due("a stretch", still.lawful(), 1);
        Doc.terms("all LAWS hold,");
        for (int broken = 0; broken < 8; broken++) {
            EvenBags y = Edge.of("p1,p1", 0, 0);
            for (int k = 0; k < 8; k++) {
                y.rule(0, 1, k == broken ? 0 : 1);
            }
            Check.due("all but law " + broken, y.lawful(), 2);
            y.set(1, 4, 1);
            Check.due("only law " + broken, y.lawful(), 2);
        }
        Doc.terms("and with no SOFT THING there is another one of greater WEIGHT in its BAG");
        for (int kind = 0; kind < 4; kind++) {
            EvenBags y = Edge.of("s5");
            y.thing(kind, 5);
            Check.due("as heavy", y.lawful(), 0);
            y.set(1, 1, 6);
            Check.due("heavier", y.lawful(), 3);
            y.set(1, 4, 1);
            Check.due("in another bag", y.lawful(), 0);
            y.set(1, 4, 0);
            y.set(1, 1, 4);
            Check.due("lighter", y.lawful(), kind == 2 ? 3 : 0);
            EvenBags z = new EvenBags();
            z.thing(kind, 6);
            z.thing(2, 5);
            Check.due("heavier, ahead", z.lawful(), 3);
            z.set(0, 1, 5);
            Check.due("as heavy, ahead", z.lawful(), 0);
        }
        Doc.terms("(STRETCHES, STOPS do not matter for LAWS, SOFT ones).");
        EvenBags y = Edge.of("s5,p6");
        Check.due("no stretch, soft", y.lawful(), 3);
        y.stretch(1, false);
        y.set(0, 2, 0);
        y.set(1, 2, 0);
        Check.due("never carried, soft", y.lawful(), 3);
        y.rule(0, 1, 0);
        Check.due("never carried, a law", y.lawful(), 2);
        EvenBags melted = Edge.of("s5,f6@5;1,1,1,1,1");
        Check.due("by weight, not by load", melted.lawful(), 3);
        y = Edge.of("p1,p1");
        y.rule(0, 1, 0);
        Check.due("no stretch, a law", y.lawful(), 2);
    }

    private static void offs() {
        Doc.terms("OFF on a STRETCH: LOADS in LEFT times the STRENGTH of the right arm, less LOADS in RIGHT times that of the left one.");
        EvenBags x = Edge.of("p10,i4,f9;1,1", 0, 1, 2);
        Edge.arms(x, 5, 7);
        Check.due("on the first", x.pull(0), 70 - 20);
        Check.due("on the second", x.pull(1), 70 - 15);
        Doc.terms("WORST: the most OFF, without its sign, of all STRETCHES (0 without any);");
        Check.due("the second", x.uneven(0), 55);
        Edge.pack(x, 2, 1, 1);
        // 5 * 13, then 5 * 10
        Check.due("without its sign", x.uneven(0), 65);
        Check.due("without any", Edge.of("p5").uneven(0), 0);
        Check.due("without any, best", Edge.of("p5").best(-2), 0);
        Doc.terms("WHOLE: OFF without its sign times YARDS (UPHILL twice), all together.");
        EvenBags y = Edge.of("p2,f4;3,5u", 0, 1);
        // 6 - 8, then 6 - 4
        Check.due("signs do not weigh up", y.uneven(1), 2 * 3 + 2 * 10);
        Check.due("without any", Edge.of("p5").uneven(1), 0);
    }

    // ---- 2

    private static void best() {
        Doc.terms("==== 2 BEST: of all LAWFUL PACKINGS that of the least WORST, of like ones of the least WHOLE, then the first as a row.");
        EvenBags x = Edge.of("p4,p3@1,p1@1;1,9");
        Edge.arms(x, 1, 1);
        x.bag(2, 0, 0);
        // 010 is 2 and 4 off, 011 is 0 and 4 off, 100 is so too
        Check.due("of like worst", x.best(-2), 4);
        Check.due("the least whole", x.best(-1), 36);
        Check.due("the first of like whole", Edge.best(x), 11);
        x.rule(1, 2, 0);
        Check.due("lawful ones alone", Edge.best(x), 10);
        Check.due("lawful ones alone", x.best(-1), 38);
        EvenBags y = Edge.of("p5;2,1");
        y.bag(2, 0, 4);
        // 15 left, 10 right
        Check.due("the least worst, not the first", Edge.best(y), 1);
        Check.due("no stretch: the first lawful one", Edge.best(Edge.of("p5,s4")), 1);
        EvenBags same = Edge.of("p1@0,p1@0;1");
        Check.due("nothing carried: the first", Edge.best(same), 0);
    }

    private static void evenest() {
        Doc.terms("EVENEST on a STRETCH: of all PACKINGS into LEFT and RIGHT alone, LAWFUL or not, the least OFF without its sign; "
            + "of like ones the first as a row.");
        EvenBags x = Edge.of("p7;1");
        Check.due("never the shoulder", x.evenest(0, 0), 1);
        Check.due("never the shoulder", x.evenest(0, -1), 14);
        Edge.arms(x, 4, 4);
        Check.due("unlike signs are alike: the first", x.evenest(0, 0), 0);
        EvenBags y = Edge.of("p5,p5;1");
        Edge.arms(y, 1, 1);
        Check.due("the first as a row", Edge.evenest(y, 0), 1);
        y.rule(0, 1, 1);
        Check.due("lawful or not", Edge.evenest(y, 0), 1);
        y.bag(0, 0, 0);
        y.bag(1, 0, 0);
        Check.due("held or not", Edge.evenest(y, 0), 1);
        Check.due("held or not", y.evenest(0, -1), 0);
    }

    private static void moved() {
        Doc.terms("MOVED at a STRETCH, for a limit: of all LAWFUL PACKINGS with no OFF (without its sign) above the limit from that STRETCH on");
        EvenBags x = Edge.of("p6,p4@1;10,10");
        Edge.arms(x, 1, 1);
        // 10 off, then 6 off
        Check.due("at the limit", x.moved(0, 10, -1), 0);
        Check.due("one above it", x.moved(0, 9, -1), 1);
        Check.due("from the first on", x.moved(0, 6, -1), 1);
        Check.due("from the second on, at the limit", x.moved(1, 6, -1), 0);
        Check.due("from the first on again", x.moved(0, 6, -1), 1);
        Check.due("from the second on, above it", x.moved(1, 5, -1), 1);
        Check.due("from the second on, above it", Edge.moved(x, 1, 5), 20);
        Edge.pack(x, 1, 1);
        Check.due("without its sign, at the limit", x.moved(0, 10, -1), 0);
        Check.due("without its sign, above it", x.moved(0, 9, -1), 1);
        x.rule(0, 1, 0);
        Check.due("lawful ones alone", x.moved(0, 99999, -1), 1);
        Doc.terms("that by which the fewest THINGS are in another BAG than in THE PACKING; of like ones the first as a row.");
        Check.due("the first as a row", Edge.moved(x, 0, 99999), 1);
        Edge.pack(x, 2, 2);
        Check.due("the first as a row", Edge.moved(x, 0, 99999), 2);
        Check.due("fewest ahead of the first as a row", x.moved(0, 99999, -1), 1);
        // from the second on nothing may pull: the 6 stays on the shoulder, the 4 is there apart from it
        Check.due("nothing above 0", Edge.moved(x, 1, 0), 20);
    }

    private static void hands() {
        Doc.terms("HANDS: a BAG alone is carried in the left hand first, in the right one then: the YARD of the whole way at which it changes, "
            + "so that what both bore (LOAD of the BAG times YARDS, UPHILL twice) are to each other as their STRENGTHS:");
        EvenBags x = Edge.of("p10;4,6");
        Edge.fraction("2 to 3, at the end of a stretch", x.hands(0, 0), x.hands(0, 1), 4, 1);
        Edge.arms(x, 3, 2);
        Edge.fraction("3 to 2", x.hands(0, 0), x.hands(0, 1), 6, 1);
        Edge.arms(x, 9, 1);
        Edge.fraction("9 to 1", x.hands(0, 0), x.hands(0, 1), 9, 1);
        Edge.arms(x, 1, 9);
        Edge.fraction("1 to 9", x.hands(0, 0), x.hands(0, 1), 1, 1);
        EvenBags y = Edge.of("p9,p1@1;5u,5", 2, 1);
        // the shoulder bag too: 90 and 45, of which 54 are left
        Edge.fraction("any bag", y.hands(2, 0), y.hands(2, 1), 3, 1);
        Edge.fraction("its own load", y.hands(1, 0), y.hands(1, 1), 2, 1);
        Doc.terms("a fraction (the first such YARD); if nothing is borne, 0.");
        EvenBags z = Edge.of("f2,p3@1;3,9,9u", 0, 1);
        Edge.fraction("nothing behind the first", z.hands(0, 0), z.hands(0, 1), 6, 5);
        Edge.fraction("an empty bag", z.hands(2, 0), z.hands(2, 1), 0, 1);
        z.set(0, 2, 0);
        Edge.fraction("left ahead of all", z.hands(0, 0), z.hands(0, 1), 0, 1);
        EvenBags still = Edge.of("p5");
        Edge.fraction("no way", still.hands(0, 0), still.hands(0, 1), 0, 1);
    }

    private static EvenBags stalls(String market, int... stalls) {
        EvenBags x = Edge.of(market);
        for (int t = 0; t < stalls.length; t++) {
            x.set(t, 3, 50 + stalls[t]);
        }
        return x;
    }

    private static void buying() {
        Doc.terms("BUYING: from 0 to STALLS, in an order of all THINGS, and back to 0: each way from one to the next counts how far it is times "
            + "the WEIGHTS of all bought so far (the last one back, too).");
        Check.due("there nothing, back 10 * 3", stalls("p3", 10).buying(-1), 30);
        Check.due("at the left end", stalls("p3", -50).buying(-1), 150);
        Check.due("at 0", stalls("p3", 0).buying(-1), 0);
        EvenBags x = stalls("p3,p1", 10, -20);
        // the first first: 30 * 3 and 20 * 4; or 30 * 1 and 10 * 4
        Check.due("the least", x.buying(-1), 70);
        Check.due("that order", Edge.buying(x), 10);
        x = stalls("p1,p1,p1", 3, -1, 1);
        // 2 * 1, 2 * 2, 1 * 3; the others take 11 at least
        Check.due("the least of three", x.buying(-1), 9);
        Check.due("from the far one to the near one", Edge.buying(x), 21);
        Doc.terms("The least; of like orders the first as a row.");
        EvenBags y = stalls("p1,p1", 10, -10);
        Check.due("20 * 1 and 10 * 2", y.buying(-1), 40);
        Check.due("the first as a row", Edge.buying(y), 1);
        y = stalls("p1,p1", -10, 10);
        Check.due("the first as a row", Edge.buying(y), 1);
        y = stalls("p9,p1,p5", 7, 7, 7);
        Check.due("one stall", y.buying(-1), 105);
        Check.due("the first as a row", Edge.buying(y), 12);
    }

    private static void paper() {
        Doc.terms("PAPER: a BAG that GIVES does so at the YARD of the way at which LOADS of its WET THINGS times YARDS (not twice), added from the "
            + "beginning, come to so much: a fraction, the first such YARD.");
        EvenBags x = Edge.of("f2,p9,s9,i9;3u,9,9", 0, 0, 0, 1);
        x.bag(0, 1, 6);
        // 2 a yard, then nothing
        Edge.fraction("the first such yard, uphill not twice", x.paper(0, 0), x.paper(0, 1), 3, 1);
        x.bag(0, 1, 7);
        Check.due("one more", x.paper(0, 0), Edge.NONE);
        x.bag(0, 1, 5);
        Edge.fraction("one less", x.paper(0, 0), x.paper(0, 1), 5, 2);
        x.bag(1, 1, 28);
        // 27 on the first, then 8 a yard
        Edge.fraction("another bag", x.paper(1, 0), x.paper(1, 1), 25, 8);
        EvenBags y = Edge.of("i9;1,1,1,1,1");
        y.bag(0, 1, 9 + 8 + 7 + 6 + 5);
        Edge.fraction("at the end of all stretches", y.paper(0, 0), y.paper(0, 1), 5, 1);
        y.bag(0, 1, 9 + 8 + 7 + 6 + 5 + 1);
        Check.due("not by their end", y.paper(0, 0), Edge.NONE);
    }

    private static void polesAndBars() {
        Doc.terms("A POLE of a length (1 .. 999) with two THINGS at its ends is held so far from the first that by WEIGHTS it is level.");
        EvenBags x = Edge.of("p1,f2@0,i3,p4");
        Edge.fraction("by weights", x.pole(0, 1, 3, 0), x.pole(0, 1, 3, 1), 2, 1);
        Edge.fraction("from the first", x.pole(1, 0, 3, 0), x.pole(1, 0, 3, 1), 1, 1);
        Edge.fraction("the least", x.pole(0, 1, 1, 0), x.pole(0, 1, 1, 1), 2, 3);
        Edge.fraction("the greatest", x.pole(0, 1, 999, 0), x.pole(0, 1, 999, 1), 666, 1);
        Check.due("0", x.pole(0, 1, 0, 0), Edge.BAD);
        Check.due("1000", x.pole(0, 1, 1000, 0), Edge.BAD);
        Doc.terms("BARS 0 .. 5, as they come, have a THING (0 .. 9) or a BAR of a lesser number (10 and its number) at each end;");
        Check.due("no such bar yet", x.bar(10, 0), Edge.BAD);
        Check.due("the first", x.bar(0, 1), 0);
        Check.due("not itself", x.bar(11, 2), Edge.BAD);
        Check.due("not itself", x.bar(2, 11), Edge.BAD);
        Check.due("no such thing", x.bar(4, 2), Edge.BAD);
        Check.due("a lesser one", x.bar(10, 2), 1);
        Doc.terms("no THING, no BAR hangs twice.");
        Check.due("a thing", x.bar(0, 3), Edge.NOT);
        Check.due("a bar", x.bar(3, 10), Edge.NOT);
        Check.due("neither", x.bar(3, 11), 2);
        Doc.terms("They are 60 long; HUNG so far from the first end that it is level, by all WEIGHTS that hang.");
        Edge.fraction("1 and 2", x.hung(0, 0), x.hung(0, 1), 40, 1);
        Edge.fraction("3 and 3", x.hung(1, 0), x.hung(1, 1), 30, 1);
        Edge.fraction("4 and 6", x.hung(2, 0), x.hung(2, 1), 36, 1);
        Check.due("all weights", x.hung(2, 2), 10);
    }

    private static EvenBags tray(int... places) {
        EvenBags x = Edge.of("p10,p10,p10,p10,p10,p10,p10,p10");
        long[] items = {-1, -1, -1, -1, -1, -1, -1, -1};
        for (int k = 0; k < places.length; k++) {
            items[places[k]] = k;
        }
        Check.fill(x, 0, 0, items);
        return x;
    }

    private static void trays() {
        Doc.terms("A TRAY has places 0 .. 7, x of them 0 2 3 2 0 -2 -3 -2, y 3 2 0 -2 -3 -2 0 2; THINGS stand there.");
        int[] xs = {0, 2, 3, 2, 0, -2, -3, -2};
        int[] ys = {3, 2, 0, -2, -3, -2, 0, 2};
        for (int p = 0; p < 8; p++) {
            for (int q = 0; q < 8; q++) {
                if (p != q) {
                    int off = Math.max(Math.abs(xs[p] + xs[q]), Math.abs(ys[p] + ys[q])) * 10;
                    Check.due("places " + p + ", " + q, tray(p, q).tray(0, 0, 0, off, 0), 0);
                    Check.due("places " + p + ", " + q, off == 0 || tray(p, q).tray(0, 0, 0, off - 1, 0) == 1);
                }
            }
        }
        Doc.terms("It TIPS, if WEIGHTS times x, or times y, added, without the sign, are above a limit (0 .. 9999).");
        Check.due("y at the limit", tray(0).tray(0, 0, 0, 30, 0), 0);
        Check.due("y above it", tray(0).tray(0, 0, 0, 29, 0), 1);
        Check.due("-y above it", tray(4).tray(0, 0, 0, 29, 0), 1);
        Check.due("x at the limit", tray(2).tray(0, 0, 0, 30, 0), 0);
        Check.due("x above it", tray(2).tray(0, 0, 0, 29, 0), 1);
        Check.due("-x above it", tray(6).tray(0, 0, 0, 29, 0), 1);
        Check.due("0 is a limit", tray(2, 6).tray(0, 0, 0, 0, 0), 0);
        Check.due("9999 is a limit", tray(2).tray(0, 0, 0, 9999, 0), 0);
        Check.due("-1 is none", tray(2).tray(0, 0, 0, -1, 0), Edge.BAD);
        Check.due("10000 is none", tray(2).tray(0, 0, 0, 10000, 0), Edge.BAD);
        Doc.terms("ORDERS: in how many orders all can be taken, one by one, so that it never TIPS (nor ahead of the first);");
        Check.due("nothing to take", tray().tray(0, 0, 0, 0, 1), 1);
        Check.due("one that tips", tray(0).tray(0, 0, 0, 29, 1), 0);
        Check.due("one that does not", tray(0).tray(0, 0, 0, 30, 1), 1);
        Check.due("level, then not", tray(0, 4).tray(0, 0, 0, 29, 1), 0);
        Check.due("level, then at the limit", tray(0, 4).tray(0, 0, 0, 30, 1), 2);
        // 0 and 1 are 50 off: ahead of the first
        Check.due("ahead of the first", tray(0, 1).tray(0, 0, 0, 49, 1), 0);
        Check.due("ahead of the first", tray(0, 1).tray(0, 0, 0, 50, 1), 2);
        // 0, 1, 4: 20 off; then without 0 it is 20 and 10 off, without 1 it is level, without 4 50 off
        Check.due("4 is last but for 0 or 1", tray(0, 1, 4).tray(0, 0, 0, 30, 1), 4);
        Check.due("all eight, all orders", tray(0, 1, 2, 3, 4, 5, 6, 7).tray(0, 0, 0, 9999, 1), 40320);
        Doc.terms("SAFE: which single ones can be taken first (as set of places) so that it does not TIP then.");
        Check.due("nothing to take", tray().tray(0, 0, 0, 0, 2), 0);
        Check.due("it may tip now", tray(0).tray(0, 0, 0, 0, 2), 1);
        Check.due("without 0 or 1", tray(0, 1, 4).tray(0, 0, 0, 30, 2), 1 + 2);
        Check.due("at the limit", tray(0, 1, 4).tray(0, 0, 0, 50, 2), 1 + 2 + 16);
        Check.due("above the limit", tray(0, 1, 4).tray(0, 0, 0, 49, 2), 1 + 2);
        Check.due("without 1 alone", tray(0, 1, 4).tray(0, 0, 0, 19, 2), 2);
    }

    private static void pulled() {
        Doc.terms("PULLED: told OFF of each STRETCH: LAWFUL PACKINGS by which it would be so: how many,");
        EvenBags x = Edge.of("p2,p2@1,p2@0;1,1");
        Check.fill(x, 0, 2, 6, 6);
        // 0 left, 1 on the shoulder, 2 anywhere
        Check.due("how many", x.pulled(0, 2, 0, 0), 3);
        x.item(0, 2, 1, 5);
        Check.due("on each stretch", x.pulled(0, 2, 0, 0), 0);
        x.item(0, 2, 1, 6);
        x.rule(0, 2, 0);
        Check.due("lawful ones", x.pulled(0, 2, 0, 0), 2);
        Doc.terms("the first as digits of 3 (THING 0 the highest),");
        Check.due("0 2 1", x.pulled(0, 2, 0, 1), 0 * 9 + 2 * 3 + 1);
        Doc.terms("SURE: THINGS that are in one and the same BAG in all of these.");
        Check.due("0 and 1", x.pulled(0, 2, 0, 2), 1 + 2);
        x.rule(1, 2, 1);
        Check.due("all", x.pulled(0, 2, 0, 2), 7);
        x.rule(0, 2, 1);
        Check.due("none", x.pulled(0, 2, 0, 2), Edge.NONE);
    }

    // ---- markets

    private static void fault(String text, int place) {
        EvenBags x = Edge.of("f7;3u");
        Check.due("'" + text + "'", Check.market(x, text), -20 - place);
        Check.due("'" + text + "' changes nothing", x.told(0, 0) * 1000 + x.told(0, 1) * 100 + x.of(0, 0) * 10 + x.of(0, 1), 3731);
        Check.due("'" + text + "' changes nothing", x.count(0) * 10 + x.count(1), 11);
    }

    /** THINGS as kind, weight, stop, then STRETCHES as yards, uphill. */
    private static void market(String text, int things, int... due) {
        EvenBags x = Edge.of("f7,f8@1;3u");
        Edge.pack(x, 2, 1);
        x.set(0, 3, 0);
        Check.due("'" + text + "'", Check.market(x, text), things);
        Check.due("'" + text + "' things", x.count(0), things);
        Check.due("'" + text + "' stretches", x.count(1), (due.length - 3 * things) / 2);
        for (int k = 0; k < 3 * things; k++) {
            Check.due("'" + text + "' thing " + k / 3, x.told(k / 3, k % 3), due[k]);
        }
        for (int k = 3 * things; k < due.length; k++) {
            int at = k - 3 * things;
            Check.due("'" + text + "' stretch " + at / 2, x.of(at / 2, at % 2), due[k]);
        }
        for (int t = 0; t < things; t++) {
            Check.due("'" + text + "' stall and bag", x.told(t, 3) * 10 + x.told(t, 4), 500);
        }
    }

    private static void marketThings() {
        Doc.terms("A MARKET is a TEXT: 1 to 10 THINGS with , between: p i s f (KINDS in this order),");
        fault("", 0);
        market("p1", 1, 0, 1, 5);
        market("p1,i2,s3,f4", 4, 0, 1, 5, 1, 2, 5, 2, 3, 5, 3, 4, 5);
        EvenBags ten = new EvenBags();
        Check.due("ten", Check.market(ten, "p1,i1,s1,f1,p1,i1,s1,f1,p1,f99"), 10);
        Check.due("the tenth", ten.told(9, 0) * 100 + ten.told(9, 1), 399);
        fault("p1,i1,s1,f1,p1,i1,s1,f1,p1,f99,", 30);
        fault("p1,i1,s1,f1,p1,i1,s1,f1,p1,f99,p1", 30);
        fault("p1,", 3);
        fault(",", 0);
        fault("p1,,p1", 3);
        fault("p1p1", 2);
        fault("P1", 0);
        fault("x1", 0);
        fault("1", 0);
        fault(";5", 0);
        fault("p1,x1", 3);
        Doc.terms("one or two digits (WEIGHT 1 .. 99),");
        market("p9", 1, 0, 9, 5);
        market("p10", 1, 0, 10, 5);
        market("p99", 1, 0, 99, 5);
        market("p01", 1, 0, 1, 5);
        market("p09", 1, 0, 9, 5);
        fault("p", 1);
        fault("p,", 1);
        fault("p@1", 1);
        fault("p-1", 1);
        fault("p0", 1);
        fault("p00", 1);
        fault("p100", 1);
        fault("p999", 1);
        fault("p001", 1);
        fault("p000", 1);
        fault("p12345678901234567890", 1);
        fault("p4294967297", 1);
        Doc.terms("perhaps @ and a digit (STOP 0 .. 5);");
        for (int stop = 0; stop <= 5; stop++) {
            market("p1@" + stop, 1, 0, 1, stop);
        }
        for (int stop = 6; stop <= 9; stop++) {
            fault("p1@" + stop, 3);
        }
        market("p1@5,i2@0,s3", 3, 0, 1, 5, 1, 2, 0, 2, 3, 5);
        fault("p1@", 3);
        fault("p1@,", 3);
        fault("p1@p", 3);
        fault("p1@5@5", 4);
        fault("p1@5u", 4);
        fault("p1@55", 4);
        fault("p1@05", 4);
    }

    private static void marketWay() {
        Doc.terms("then perhaps ; and 1 to 5 STRETCHES with , between: one or two digits (YARDS 1 .. 99), perhaps u (UPHILL):");
        market("p1;1", 1, 0, 1, 5, 1, 0);
        market("p1;99u", 1, 0, 1, 5, 99, 1);
        market("p1@2;07,10u,9", 1, 0, 1, 2, 7, 0, 10, 1, 9, 0);
        market("p1;1,2u,3,4u,5", 1, 0, 1, 5, 1, 0, 2, 1, 3, 0, 4, 1, 5, 0);
        market("p1;1,2u,3,4u,5u  ", 1, 0, 1, 5, 1, 0, 2, 1, 3, 0, 4, 1, 5, 1);
        fault("p1;1,2,3,4,5u  ,6", 15);
        fault("p1;1,2,3,4,5  ,6", 14);
        fault("p1;1,2u,3,4u,5,", 14);
        fault("p1;1,2u,3,4u,5u,6", 15);
        fault("p1;", 3);
        fault("p1;,", 3);
        fault("p1;;", 3);
        fault("p1;u", 3);
        fault("p1;p1", 3);
        fault("p1;0", 3);
        fault("p1;00", 3);
        fault("p1;0u", 3);
        fault("p1;100", 3);
        fault("p1;001", 3);
        fault("p1;5,0", 5);
        fault("p1;5,100u", 5);
        fault("p1;5uu", 5);
        fault("p1;5u5", 5);
        fault("p1;5,", 5);
        fault("p1;5,,", 5);
        fault("p1;5;5", 4);
        fault("p1;5@1", 4);
        fault("p1;5U", 4);
        fault("p1u", 2);
        Doc.terms("in place of all THINGS, STRETCHES; LAWS, BARS are gone (BAGS, STRENGTHS stay).");
        EvenBags x = Edge.SOME.make();
        Check.due("p1 of the tape", x.market(), 1);
        int[] counts = {1, 0, 0, 0, 0, 4, 3};
        for (int what = 0; what < 7; what++) {
            Check.due("count(" + what + ")", x.count(what), counts[what]);
        }
        Check.due("no law", x.off(), Edge.NONE);
        Check.due("no bar", x.hung(0, 0), Edge.BAD);
        Check.due("no thing hangs", x.told(0, 5), 0);
        Check.due("holds stay", x.bag(0, 0, 1), 500);
        Check.due("gives stay", x.bag(1, 1, 1), 399);
        Check.due("sheets stay", x.drop(1), 9);
        Check.due("the first bar again", x.thing(0, 1) * 10 + x.bar(0, 1), 10);
        Check.due("the first law again", x.rule(0, 1, 0), 0);
        Check.due("the image stays", x.restore(), 1);
        Check.due("the image stays", x.count(0), 2);
    }

    private static void faults() {
        Doc.terms("FAULTS: -20 less the place of the first letter (behind blanks) that can't stand there (the end: how many there are);");
        fault("x", 0);
        fault("  x", 2);
        fault("   ", 3);
        fault("p   ", 4);
        fault("p   x", 4);
        fault("p1  x", 4);
        fault("p1 @ x", 5);
        fault("p1 , ", 5);
        fault("p1;5  x", 6);
        fault("p1 x y z", 3);
        StringBuilder longest = new StringBuilder("p");
        while (longest.length() < 80) {
            longest.append(' ');
        }
        fault(longest.toString(), 80);
        longest.setCharAt(79, 'x');
        fault(longest.toString(), 79);
        fault("p1~", 2);
        fault("p1/", 2);
        fault("p1:", 2);
        fault("p/", 1);
        fault("p:", 1);
        fault("p1@/", 3);
        Doc.terms("blanks count for nothing, but end a number;");
        market("  p  1  @  5  ,  i  20  ;  3  u  ,  4  ", 2, 0, 1, 5, 1, 20, 5, 3, 1, 4, 0);
        market("p1 ", 1, 0, 1, 5);
        market(" p1", 1, 0, 1, 5);
        fault("p1 2", 3);
        fault("p1 0", 3);
        fault("p0 1", 1);
        fault("p1@5 5", 5);
        fault("p1;1 2", 5);
        fault("p1;1 2u", 5);
        market("p 1", 1, 0, 1, 5);
        Doc.terms("of a number that may not be its first digit.");
        fault("p0", 1);
        fault("p  0", 3);
        fault("p100", 1);
        fault("p  100", 3);
        fault("p1,i00", 4);
        fault("p1;  100", 5);
        fault("p1;1,  000u", 7);
    }

    private static void lines() {
        String[][] parts = {{"thing", "told", "set", "stretch", "of", "bag", "arm", "rule", "off", "type", "market", "count"},
            {"load", "lawful", "pull", "uneven", "best", "pack", "evenest", "moved", "hands", "buying", "paper", "pole", "bar", "hung",
                "image", "restore"},
            {"tray", "pulled", "film", "lay", "sheet", "drop", "item", "copy"}};
        String[] heads = {"1 things, ways, laws.", "2 packings.", "3 sheets 0 .. 3:"};
        for (int k = 0; k < 3; k++) {
            StringBuilder calls = new StringBuilder("Ahead of the calls ");
            for (String name : parts[k]) {
                calls.append(calls.charAt(calls.length() - 1) == '`' ? ", `" : "`").append(name).append('`');
            }
            Doc.terms(calls.append(" the interface says: ---- ").append(heads[k]).toString());
        }
        Doc.terms("nothing (at first), or a row of a LANE: 0 bytes, 1 shorts, 2 ints, 3 longs, of 0 to 16 items.");
        EvenBags x = new EvenBags();
        for (int s = 0; s < 4; s++) {
            Check.due("nothing at first", x.drop(s), Edge.NULL);
            Check.due("16 items", x.sheet(s, s, 16), 16);
            Check.due("17 items", x.sheet(s, s, 17), Edge.BAD);
            Check.due("no items", x.sheet(s, s, 0), 0);
            Check.due("less than none", x.sheet(s, s, -1), Edge.SIZE);
        }
        Check.due("no sheet", x.sheet(4, 0, 1), Edge.BAD);
        Check.due("no lane", x.sheet(0, 4, 1), Edge.BAD);
    }

    private static void manyCalls() {
        Doc.quote("What it is", "An object is used for at most 512 calls after it has been made;");
        EvenBags x = Edge.of("p6,p4;10");
        Edge.arms(x, 1, 1);
        x.bag(2, 0, 0);
        int made = 8 + 1 + 2 + 1;
        for (int k = made; k < 508; k += 4) {
            Check.due("another weight", x.set(0, 1, 10), 6);
            Check.due("another best", x.best(-2), 6);
            Check.due("the weight again", x.set(0, 1, 6), 10);
            Check.due("the best again", x.best(-2), 2);
        }
        Check.due("call 509", x.lawful(), 0);
        Check.due("call 510", x.buying(-1), 0);
        Check.due("call 511", x.pack(), 2);
        Check.due("call 512", x.told(1, 4), 1);
        EvenBags y = new EvenBags();
        for (int k = 0; k < 511; k++) {
            Check.due("a letter", y.type(31), Edge.BAD);
        }
        Check.due("the last call", y.type('p'), 1);
    }

    static void all() {
        names();
        firstNamed();
        machineOrder();
        farBelow();
        refusedCalls();
        askers();
        fractions();
        stretches();
        things();
        kinds();
        bags();
        laws();
        lawfulPackings();
        offs();
        best();
        evenest();
        moved();
        hands();
        buying();
        paper();
        polesAndBars();
        trays();
        pulled();
        marketThings();
        marketWay();
        faults();
        lines();
        manyCalls();
    }
}
