/** The boundary cases of promises 30 to 37, each behind the words of the document that it tests. */
final class SheetsEdges {
    private SheetsEdges() {
    }

    /** Whatever takes a SHEET as a row of a LANE: arguments 0, 1, 2 are the SHEET, the LANE and i. */
    private static void taken(Whole.Making state, Call call, int sheet, int lane, int lastItem) {
        Call fine = call.but(0, sheet).but(1, lane);
        Edge.accepted(state, fine);
        for (int bad : new int[] {-1, 4, Edge.MIN, Edge.MAX}) {
            Edge.refused(state, fine.but(0, bad), Edge.BAD);
            Edge.refused(state, fine.but(1, bad), Edge.BAD);
            Edge.refused(state, fine.but(0, 0).but(1, bad), Edge.BAD);
            Edge.refused(state, fine.but(0, bad).but(2, -1), Edge.BAD);
        }
        for (int any = 0; any < 4; any++) {
            Edge.refused(state, fine.but(0, 0).but(1, any), Edge.NULL);
            Edge.refused(state, fine.but(0, 0).but(1, any).but(2, -1), Edge.NULL);
            if (any != lane) {
                Edge.refused(state, fine.but(1, any), Edge.CAST);
                Edge.refused(state, fine.but(1, any).but(2, -1), Edge.CAST);
                Edge.refused(state, fine.but(1, any).but(2, lastItem + 1), Edge.CAST);
            }
        }
        Edge.bounds(state, fine, 2, 0, lastItem, Edge.INDEX);
        for (int index : new int[] {16, 17, Edge.MAX - 1, Edge.MAX - 7, Edge.MAX - 16, Edge.MIN + 1}) {
            Edge.refused(state, fine.but(2, index), Edge.INDEX);
        }
    }

    private static EvenBags tray(int lane, long... items) {
        EvenBags x = Edge.of("p5,p5,p7,p1,p99");
        Check.fill(x, 0, lane, items);
        return x;
    }

    private static void tray() {
        Doc.promise(30, "A TRAY, 8 items (a THING, or below 0: nothing) of a SHEET, taken as a row of a LANE, from item i on:");
        for (int lane = 0; lane < 4; lane++) {
            EvenBags x = tray(lane, 4, 0, -1, -2, -1, -1, -1, -128, -1, 3);
            Check.due("from 0 on", x.tray(0, lane, 0, 9999, 1), 2);
            Check.due("from 1 on", x.tray(0, lane, 1, 9999, 1), 1);
            Check.due("from 1 on", x.tray(0, lane, 1, 0, 2), 1);
            Check.due("from 2 on", x.tray(0, lane, 2, 0, 2), 128);
        }
        EvenBags x = tray(3, Long.MIN_VALUE, -1, -1, -1, -1, -1, -1, -4294967296L);
        Check.due("far below 0: nothing", x.tray(0, 3, 0, 0, 1), 1);
        EvenBags none = new EvenBags();
        Check.fill(none, 0, 0, -1, -1, -1, -1, -1, -1, -1, -1);
        Check.due("no things, an empty tray", none.tray(0, 0, 0, 0, 0), 0);
        Doc.promise(30, "whether it TIPS (0: 1, 0), ORDERS (1), SAFE (2).");
        EvenBags y = tray(2, 0, -1, -1, -1, -1, -1, -1, -1);
        Check.due("tips", y.tray(0, 2, 0, 14, 0), 1);
        Check.due("no order", y.tray(0, 2, 0, 14, 1), 0);
        Check.due("safe", y.tray(0, 2, 0, 14, 2), 1);
        Check.due("tips not", y.tray(0, 2, 0, 15, 0), 0);
        Check.due("one order", y.tray(0, 2, 0, 15, 1), 1);
        Doc.promise(30, "BAD; NULL; CAST; INDEX;");
        for (int what = 0; what < 3; what++) {
            taken(Edge.SOME, Call.of("tray", 0, 0, 0, 0, what), 1, 2, 1);
        }
        Edge.bounds(Edge.SOME, Call.of("tray", 1, 2, 0, 5, 0), 3, 0, 9999, Edge.BAD);
        Edge.bounds(Edge.SOME, Call.of("tray", 1, 2, 0, 5, 0), 4, 0, 2, Edge.BAD);
        Edge.refused(Edge.SOME, Edge.BAD, "tray", 0, 0, 0, -1, 0);
        Edge.refused(Edge.SOME, Edge.BAD, "tray", 0, 0, 0, 0, 3);
        Edge.refused(() -> tray(2, -1, -1, -1, -1, -1, -1, -1), Edge.INDEX, "tray", 0, 2, 0, 0, 0);
        Doc.promise(30, "NOT: one is no THING, a THING comes twice.");
        for (int place = 0; place < 8; place++) {
            long[] items = {-1, -1, -1, -1, -1, -1, -1, -1};
            items[place] = 4;
            Check.due("the last thing", tray(1, items).tray(0, 1, 0, 0, 2), 1 << place);
            items[place] = 5;
            Check.due("no thing", tray(1, items).tray(0, 1, 0, 0, 2), Edge.NOT);
            items[place] = 2;
            items[(place + 3) % 8] = 2;
            Check.due("twice", tray(1, items).tray(0, 1, 0, 0, 2), Edge.NOT);
            items[place] = 1;
            Check.due("two", tray(1, items).tray(0, 1, 0, 9999, 1), 2);
        }
        for (int what = 0; what < 3; what++) {
            Edge.refused(() -> tray(2, 5, -1, -1, -1, -1, -1, -1, -1), Edge.NOT, "tray", 0, 2, 0, 9999, what);
            Edge.refused(() -> tray(3, 4294967296L, -1, -1, -1, -1, -1, -1, -1), Edge.NOT, "tray", 0, 3, 0, 9999, what);
            Edge.refused(() -> tray(3, Long.MAX_VALUE, -1, -1, -1, -1, -1, -1, -1), Edge.NOT, "tray", 0, 3, 0, 9999, what);
            Edge.refused(() -> tray(2, 1, -1, -1, -1, -1, -1, -1, 1), Edge.NOT, "tray", 0, 2, 0, 9999, what);
        }
        EvenBags empty = new EvenBags();
        empty.sheet(0, 0, 8);
        Check.due("no things: 0 is none", empty.tray(0, 0, 0, 0, 0), Edge.NOT);
    }

    /** 2 and 3, both carried on the first STRETCH, the 3 alone on the second. */
    private static EvenBags pulled(int lane, long... items) {
        EvenBags x = Edge.of("p2@1,p3;10,10");
        Check.fill(x, 0, lane, items);
        return x;
    }

    private static void pulled() {
        Doc.promise(31, "PULLED, an item for each STRETCH likewise: how many (0), the first (1), SURE (2).");
        for (int lane = 0; lane < 4; lane++) {
            // the 3 left, the 2 right: 9 - 4 and 9
            EvenBags x = pulled(lane, 7, 5, 9);
            Check.due("how many", x.pulled(0, lane, 1, 0), 1);
            Check.due("the first", x.pulled(0, lane, 1, 1), 1 * 3 + 0);
            Check.due("sure", x.pulled(0, lane, 1, 2), 3);
            Check.due("another row", x.pulled(0, lane, 0, 0), 0);
        }
        EvenBags free = pulled(2, 9, 9);
        free.set(0, 2, 0);
        Check.due("how many", free.pulled(0, 2, 0, 0), 3);
        Check.due("the first", free.pulled(0, 2, 0, 1), 0);
        Check.due("sure", free.pulled(0, 2, 0, 2), 2);
        EvenBags ten = new EvenBags();
        for (int t = 0; t < 10; t++) {
            ten.thing(0, 1);
        }
        ten.sheet(0, 0, 0);
        Check.due("the most", ten.pulled(0, 0, 0, 0), 59049);
        Check.due("the first of all", ten.pulled(0, 0, 0, 1), 0);
        Check.due("none is sure", ten.pulled(0, 0, 0, 2), 0);
        ten.stretch(1, false);
        ten.sheet(0, 0, 1);
        ten.bag(0, 0, 0);
        ten.bag(1, 0, 0);
        Check.due("one", ten.pulled(0, 0, 0, 0), 1);
        Check.due("the last of all", ten.pulled(0, 0, 0, 1), 59048);
        Check.due("all are sure", ten.pulled(0, 0, 0, 2), 1023);
        EvenBags nothing = new EvenBags();
        nothing.sheet(0, 0, 2);
        Check.due("no things, no way", nothing.pulled(0, 0, 0, 0), 1);
        Check.due("no things, no way", nothing.pulled(0, 0, 0, 1), 0);
        Check.due("no things, no way", nothing.pulled(0, 0, 0, 2), 0);
        nothing.stretch(1, false);
        Check.due("no things", nothing.pulled(0, 0, 0, 0), 1);
        nothing.item(0, 0, 0, 1);
        Check.due("no things pull nothing", nothing.pulled(0, 0, 0, 0), 0);
        Doc.promise(31, "BAD; NULL; CAST; INDEX;");
        taken(Edge.SOME, Call.of("pulled", 0, 0, 0, 0), 1, 2, 5);
        taken(Edge.SOME, Call.of("pulled", 0, 0, 0, 0), 3, 3, 12);
        Edge.bounds(() -> pulled(2, 5, 9), Call.of("pulled", 0, 2, 0, 0), 3, 0, 2, Edge.BAD);
        Edge.refused(Edge.SOME, Edge.BAD, "pulled", 0, 2, 0, 3);
        Edge.refused(Edge.SOME, Edge.BAD, "pulled", 0, 2, 0, -1);
        for (int what = 0; what < 3; what++) {
            Edge.refused(() -> pulled(2, 5), Edge.INDEX, "pulled", 0, 2, 0, what);
        }
        Doc.promise(31, "NONE: there are none (1, 2).");
        Check.due("how many", pulled(2, 5, 8).pulled(0, 2, 0, 0), 0);
        Edge.refused(() -> pulled(2, 5, 8), Edge.NONE, "pulled", 0, 2, 0, 1);
        Edge.refused(() -> pulled(2, 5, 8), Edge.NONE, "pulled", 0, 2, 0, 2);
        for (long far : new long[] {8911, -8911, Integer.MAX_VALUE, Integer.MIN_VALUE}) {
            Check.due("how many", pulled(2, far, 9).pulled(0, 2, 0, 0), 0);
            Check.due("none", pulled(2, far, 9).pulled(0, 2, 0, 1), Edge.NONE);
        }
        for (long far : new long[] {4294967296L + 5, Long.MAX_VALUE, Long.MIN_VALUE, Long.MIN_VALUE + 5}) {
            Check.due("how many", pulled(3, far, 9).pulled(0, 3, 0, 0), 0);
            Check.due("none", pulled(3, far, 9).pulled(0, 3, 0, 2), Edge.NONE);
        }
    }

    /** A SHEET of a LANE with one item, which OFF of one THING has come to. */
    private static EvenBags filmed(int lane, int weight, int bag, int left, int right) {
        EvenBags x = new EvenBags();
        x.thing(0, weight);
        x.set(0, 4, bag);
        x.stretch(1, false);
        Edge.arms(x, left, right);
        x.sheet(0, lane, 1);
        Check.due("film", x.film(0, lane, 0), 1);
        Edge.arms(x, 1, 1);
        return x;
    }

    /** Whether the item is OFF of one THING of that WEIGHT in that BAG, with all STRENGTHS 1. */
    private static void shows(EvenBags x, int lane, int weight, int bag) {
        x.set(0, 1, weight);
        Check.due("it is " + weight + " in bag " + bag, x.pulled(0, lane, 0, 1), bag);
    }

    private static void film() {
        Doc.promise(32, "OFF of all STRETCHES comes to a SHEET likewise");
        EvenBags x = Edge.of("p2@1,p3;10,10", 1, 0);
        Check.fill(x, 0, 2, 7, 7, 7, 7);
        Check.due("film", x.film(0, 2, 1), 2);
        Check.due("filmed", x.pulled(0, 2, 1, 1), 3);
        x.set(1, 1, 1);
        x.set(0, 2, 0);
        // 7 is what 1 * 7 pulls: the items ahead and behind stay
        Edge.arms(x, 1, 7);
        x.copy(0, 3, 0, 1, 1);
        Check.due("the item ahead stays", x.pulled(0, 2, 0, 0), 3);
        Doc.promise(32, "(their lowest bits)");
        // 86 * 3 is 258, 32 * 8 is 256, 64 * 2 is 128
        shows(filmed(0, 63, 0, 1, 1), 0, 63, 0);
        EvenBags most = Edge.of("p99,p28;1");
        Edge.arms(most, 1, 1);
        most.sheet(0, 0, 1);
        most.film(0, 0, 0);
        Check.due("127 is 127 as a byte", most.pulled(0, 0, 0, 1), 0);
        shows(filmed(0, 86, 0, 1, 3), 0, 2, 0);
        shows(filmed(0, 86, 1, 3, 1), 0, 2, 1);
        shows(filmed(0, 32, 0, 1, 8), 0, 50, 2);
        EvenBags turned = filmed(0, 64, 0, 1, 2);
        turned.set(0, 1, 64);
        turned.arm(0, 2);
        Check.due("128 is -128 as a byte", turned.pulled(0, 0, 0, 1), 1);
        for (int lane = 1; lane < 4; lane++) {
            EvenBags wide = filmed(lane, 99, 1, 9, 1);
            wide.arm(0, 9);
            Check.due("-891 fits into lane " + lane, wide.pulled(0, lane, 0, 1), 1);
        }
        Doc.promise(32, ": how many.");
        EvenBags y = Edge.of("p1;1,1,1,1,1");
        y.sheet(0, 0, 5);
        Check.due("five", y.film(0, 0, 0), 5);
        EvenBags none = new EvenBags();
        none.sheet(0, 0, 2);
        Check.due("none", none.film(0, 0, 0), 0);
        Check.due("none, at the end", none.film(0, 0, 2), 0);
        Check.due("none, beyond the end", none.film(0, 0, 3), Edge.INDEX);
        Check.due("none, ahead", none.film(0, 0, -1), Edge.INDEX);
        Doc.promise(32, "BAD; NULL; CAST; INDEX.");
        taken(Edge.SOME, Call.of("film", 0, 0, 0), 1, 2, 5);
        taken(Edge.SOME, Call.of("film", 0, 0, 0), 2, 0, 3);
        taken(Edge.SOME, Call.of("film", 0, 0, 0), 3, 3, 12);
        Edge.refused(Edge.EMPTY, Edge.NULL, "film", 0, 0, 0);
    }

    private static EvenBags laid(int lane, long... items) {
        EvenBags x = Edge.of("p5,s4,p3;1", 2, 1, 2);
        Check.fill(x, 0, lane, items);
        return x;
    }

    private static void lay() {
        Doc.promise(33, "BAGS of all THINGS, items of a SHEET likewise, become THE PACKING: why it is not LAWFUL, as by lawful().");
        for (int lane = 0; lane < 4; lane++) {
            EvenBags x = laid(lane, 7, 0, 1, 2, 7);
            Check.due("lawful", x.lay(0, lane, 1), 0);
            Check.due("laid", Edge.packing(x), 12);
        }
        EvenBags x = laid(0, 1, 1, 0);
        Check.due("a soft one", x.lay(0, 0, 0), 3);
        Check.due("laid all the same", Edge.packing(x), 110);
        x.rule(1, 2, 1);
        Edge.pack(x, 2, 2, 2);
        Check.due("a law", x.lay(0, 0, 0), 2);
        Check.due("laid all the same", Edge.packing(x), 110);
        x.bag(1, 0, 8);
        Edge.pack(x, 2, 2, 2);
        Check.due("not held", x.lay(0, 0, 0), 1);
        Check.due("laid all the same", Edge.packing(x), 110);
        Check.due("as by lawful", x.lawful(), 1);
        EvenBags none = new EvenBags();
        none.sheet(0, 0, 1);
        Check.due("no things", none.lay(0, 0, 1), 0);
        Check.due("no things, beyond the end", none.lay(0, 0, 2), Edge.INDEX);
        Check.due("no things, ahead", none.lay(0, 0, -1), Edge.INDEX);
        Doc.promise(33, "BAD; NULL; CAST; INDEX;");
        taken(Edge.SOME, Call.of("lay", 0, 0, 0), 2, 0, 1);
        Edge.refused(() -> laid(2, 0, 0), Edge.INDEX, "lay", 0, 2, 0);
        Doc.promise(33, "NOT: one is no BAG.");
        for (int place = 0; place < 3; place++) {
            for (long no : new long[] {-1, 3, -128, 127, 255, 65536, Long.MAX_VALUE, Long.MIN_VALUE, 4294967296L, -4294967295L}) {
                long[] items = {0, 0, 0};
                items[place] = no;
                Edge.refused(() -> laid(3, items), Edge.NOT, "lay", 0, 3, 0);
            }
            for (int good = 0; good < 3; good++) {
                long[] items = {0, 0, 0};
                items[place] = good;
                EvenBags y = laid(3, items);
                Check.due("a bag", y.lay(0, 3, 0) >= 0);
                Check.due("a bag", y.told(place, 4), good);
            }
        }
    }

    private static void sheetAndDrop() {
        Doc.promise(34, "A SHEET holds a new row of a LANE: n.");
        EvenBags x = Edge.of("p1;1", 0);
        Edge.arms(x, 1, 1);
        for (int s = 0; s < 4; s++) {
            for (int lane = 0; lane < 4; lane++) {
                for (int n : new int[] {0, 1, 15, 16}) {
                    Check.due("sheet", x.sheet(s, lane, n), n);
                    Check.due("the last item", x.item(s, lane, n - 1, 2), n == 0 ? Edge.INDEX : 1);
                    Check.due("one beyond", x.item(s, lane, n, 2), Edge.INDEX);
                }
            }
        }
        Check.due("again", x.sheet(1, 2, 16), 16);
        for (int i = 0; i < 16; i++) {
            Check.due("a new row is of 0s", x.pulled(1, 2, i, 1), 2);
            Check.due("a new row is of 0s", x.lay(1, 2, i) * 10 + x.told(0, 4), 0);
        }
        Doc.promise(34, "BAD: also n above 16;");
        Edge.bounds(Edge.SOME, Call.of("sheet", 0, 0, 5), 0, 0, 3, Edge.BAD);
        Edge.bounds(Edge.SOME, Call.of("sheet", 0, 0, 5), 1, 0, 3, Edge.BAD);
        for (int s = 0; s < 4; s++) {
            Edge.bounds(Edge.SOME, Call.of("sheet", s, 1, 5), 2, 0, 16, Edge.SIZE, Edge.BAD);
        }
        Doc.promise(34, "SIZE: n below 0.");
        Edge.refused(Edge.EMPTY, Edge.SIZE, "sheet", 0, 0, -1);
        Edge.refused(Edge.ALL, Edge.SIZE, "sheet", 3, 3, -1);
        Edge.refused(Edge.ALL, Edge.SIZE, "sheet", 3, 0, Edge.MIN);
        Doc.promise(35, "A SHEET holds nothing: how many items it had.");
        EvenBags y = Edge.SOME.make();
        int[] had = {Edge.NULL, 9, 7, 16};
        for (int s = 0; s < 4; s++) {
            Check.due("drop", y.drop(s), had[s]);
            Check.due("nothing", y.drop(s), Edge.NULL);
            for (int lane = 0; lane < 4; lane++) {
                Check.due("nothing", y.item(s, lane, 0, 1), Edge.NULL);
            }
        }
        y.sheet(2, 1, 0);
        Check.due("an empty row had none", y.drop(2), 0);
        Doc.promise(35, "BAD; NULL.");
        for (int bad : new int[] {-1, 4, Edge.MIN, Edge.MAX}) {
            Edge.refused(Edge.SOME, Edge.BAD, "drop", bad);
        }
        Edge.refused(Edge.SOME, Edge.NULL, "drop", 0);
        for (int s = 0; s < 4; s++) {
            Edge.refused(Edge.EMPTY, Edge.NULL, "drop", s);
        }
    }

    /** One THING and one STRETCH, and a SHEET of one item. */
    private static EvenBags held(int lane, long v) {
        EvenBags x = Edge.of("p1;1");
        Edge.arms(x, 1, 1);
        x.sheet(0, lane, 1);
        Check.due("item", x.item(0, lane, 0, v), 1);
        return x;
    }

    private static void item() {
        Doc.promise(36, "Item i of a SHEET, taken as a row of a LANE, becomes v,");
        for (int lane = 0; lane < 4; lane++) {
            EvenBags x = Edge.of("p1");
            x.sheet(0, lane, 16);
            for (int i = 0; i < 16; i += 15) {
                Check.due("item", x.item(0, lane, i, 2), 1);
                x.lay(0, lane, i);
                Check.due("it became so", x.told(0, 4), 2);
            }
            for (int i = 1; i < 15; i++) {
                x.lay(0, lane, i);
                Check.due("another one stays", x.told(0, 4), 0);
            }
        }
        Doc.promise(36, "its lowest bits: 1.");
        long[] turns = {1L << 7, 1L << 15, 1L << 31};
        for (int lane = 0; lane < 3; lane++) {
            long turn = turns[lane];
            // the greatest is no THING; one more is below 0, and so is all up to twice that; then 0 comes again
            tells(lane, turn - 1, false);
            tells(lane, turn, true);
            tells(lane, 2 * turn - 1, true);
            tells(lane, -turn, true);
            tells(lane, -turn - 1, false);
            for (int k = -2; k <= 2; k++) {
                Check.due("0 again", held(lane, k * 2 * turn).pulled(0, lane, 0, 1), 2);
                Check.due("1 again", held(lane, k * 2 * turn + 1).pulled(0, lane, 0, 1), 0);
                Check.due("-1 again", held(lane, k * 2 * turn - 1).pulled(0, lane, 0, 1), 1);
                EvenBags x = held(lane, k * 2 * turn + 2);
                Check.due("2 again", x.lay(0, lane, 0) * 10 + x.told(0, 4), 2);
            }
            Check.due("of the least long", held(lane, Long.MIN_VALUE).pulled(0, lane, 0, 1), 2);
            Check.due("of the greatest long", held(lane, Long.MAX_VALUE).pulled(0, lane, 0, 1), 1);
            Check.due("a longer lane has more bits", held(lane + 1, 2 * turn + 1).pulled(0, lane + 1, 0, 0), 0);
        }
        tells(3, Long.MAX_VALUE, false);
        tells(3, Long.MIN_VALUE, true);
        tells(3, 1L << 32, false);
        Doc.promise(36, "BAD; NULL; CAST; INDEX.");
        taken(Edge.SOME, Call.of("item", 0, 0, 0, 2), 1, 2, 8);
        taken(Edge.SOME, Call.of("item", 0, 0, 0, 2), 2, 0, 6);
        taken(Edge.SOME, Call.of("item", 0, 0, 0, 2), 3, 3, 15);
        Whole.Making empty = () -> {
            EvenBags x = new EvenBags();
            x.sheet(0, 1, 0);
            return x;
        };
        Edge.refused(empty, Edge.INDEX, "item", 0, 1, 0, 1);
        Edge.refused(empty, Edge.CAST, "item", 0, 2, 0, 1);
    }

    /** A TRAY tells whether a far number is below 0: nothing stands there; or else it is no THING. */
    private static void tells(int lane, long v, boolean below) {
        EvenBags x = Edge.of("p1");
        Check.fill(x, 0, lane, -1, -1, v, -1, -1, -1, -1, -1);
        Check.due("lane " + lane + " of " + v, x.tray(0, lane, 0, 0, 0), below ? 0 : Edge.NOT);
    }

    /** SHEETS 0, 2 of bytes, 4 and 6 items; 1 of shorts; 3 missing. */
    private static EvenBags copies() {
        EvenBags x = Edge.of("p1,p1,p1,p1");
        Check.fill(x, 0, 0, 0, 1, 2, 0);
        Check.fill(x, 1, 1, 1, 1, 1, 1);
        Check.fill(x, 2, 0, 2, 2, 2, 2, 2, 2);
        return x;
    }

    private static void row(EvenBags x, int sheet, int lane, int i, int due) {
        x.lay(sheet, lane, i);
        Check.due("sheet " + sheet + " from " + i + " on", Edge.packing(x), due);
    }

    private static void copy() {
        Doc.promise(37, "n items of a SHEET from i on come to another one (or the same) from j on, as if all were taken ahead: n.");
        EvenBags x = copies();
        Check.due("none", x.copy(0, 0, 2, 0, 0), 0);
        Check.due("none, at both ends", x.copy(0, 4, 2, 6, 0), 0);
        row(x, 2, 0, 0, 2222);
        Check.due("one", x.copy(0, 3, 2, 5, 1), 1);
        row(x, 2, 0, 2, 2220);
        row(x, 2, 0, 0, 2222);
        Check.due("all", x.copy(0, 0, 2, 2, 4), 4);
        row(x, 2, 0, 2, 120);
        row(x, 2, 0, 0, 2201);
        row(x, 0, 0, 0, 120);
        Check.due("the same, onwards", x.copy(0, 0, 0, 1, 3), 3);
        row(x, 0, 0, 0, 12);
        Check.due("the same, backwards", x.copy(0, 1, 0, 0, 3), 3);
        row(x, 0, 0, 0, 122);
        Check.due("the same, in place", x.copy(0, 0, 0, 0, 4), 4);
        row(x, 0, 0, 0, 122);
        for (int lane = 0; lane < 4; lane++) {
            EvenBags y = Edge.of("p1;1");
            Edge.arms(y, 1, 1);
            Check.fill(y, 0, lane, -1, 1);
            y.sheet(1, lane, 16);
            Check.due("a lane", y.copy(0, 0, 1, 14, 2), 2);
            Check.due("below 0", y.pulled(1, lane, 14, 1), 1);
            Check.due("above 0", y.pulled(1, lane, 15, 1), 0);
            y.item(1, lane, 14, 0);
            Check.due("a row of its own", y.pulled(0, lane, 0, 1), 1);
        }
        Doc.promise(37, "BAD; NULL (either);");
        for (int bad : new int[] {-1, 4, Edge.MIN, Edge.MAX}) {
            Edge.refused(SheetsEdges::copies, Edge.BAD, "copy", bad, 0, 0, 0, 1);
            Edge.refused(SheetsEdges::copies, Edge.BAD, "copy", 0, 0, bad, 0, 1);
            Edge.refused(SheetsEdges::copies, Edge.BAD, "copy", 3, 0, bad, 0, 1);
            Edge.refused(SheetsEdges::copies, Edge.BAD, "copy", bad, 0, 3, 0, 1);
            Edge.refused(SheetsEdges::copies, Edge.BAD, "copy", bad, -1, 1, -1, -1);
        }
        Edge.refused(SheetsEdges::copies, Edge.NULL, "copy", 3, 0, 0, 0, 1);
        Edge.refused(SheetsEdges::copies, Edge.NULL, "copy", 0, 0, 3, 0, 1);
        Edge.refused(SheetsEdges::copies, Edge.NULL, "copy", 3, 0, 3, 0, 0);
        Edge.refused(SheetsEdges::copies, Edge.NULL, "copy", 0, -1, 3, 0, 1);
        Edge.refused(SheetsEdges::copies, Edge.NULL, "copy", 3, 0, 0, 0, -1);
        Doc.promise(37, "CAST: of unlike LANES;");
        Edge.refused(SheetsEdges::copies, Edge.CAST, "copy", 0, 0, 1, 0, 1);
        Edge.refused(SheetsEdges::copies, Edge.CAST, "copy", 1, 0, 0, 0, 1);
        Edge.refused(SheetsEdges::copies, Edge.CAST, "copy", 1, 0, 0, 0, 0);
        Edge.refused(SheetsEdges::copies, Edge.CAST, "copy", 1, 9, 0, -1, -1);
        Doc.promise(37, "INDEX.");
        Call four = Call.of("copy", 0, 0, 2, 0, 4);
        Edge.bounds(SheetsEdges::copies, four, 1, 0, 0, Edge.INDEX);
        Edge.bounds(SheetsEdges::copies, four, 3, 0, 2, Edge.INDEX);
        Edge.bounds(SheetsEdges::copies, four, 4, 0, 4, Edge.INDEX);
        Edge.bounds(SheetsEdges::copies, Call.of("copy", 2, 2, 0, 0, 4), 1, 0, 2, Edge.INDEX);
        Edge.bounds(SheetsEdges::copies, Call.of("copy", 2, 2, 0, 1, 3), 4, 0, 3, Edge.INDEX);
        Edge.bounds(SheetsEdges::copies, four.but(4, 0), 1, 0, 4, Edge.INDEX);
        Edge.bounds(SheetsEdges::copies, four.but(4, 0), 3, 0, 6, Edge.INDEX);
        for (int[] far : new int[][] {{Edge.MAX, 0, Edge.MAX}, {1, 1, Edge.MAX}, {Edge.MIN, 0, Edge.MIN}, {-1, -1, 1}, {5, 7, 0}}) {
            Edge.refused(SheetsEdges::copies, Edge.INDEX, "copy", 0, far[0], 2, far[1], far[2]);
        }
    }

    static void all() {
        tray();
        pulled();
        film();
        lay();
        sheetAndDrop();
        item();
        copy();
    }
}
