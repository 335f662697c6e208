/** Promises 30 to 37: sheets. */
public final class SheetsTest {
    private static final int MIN = Integer.MIN_VALUE, MAX = Integer.MAX_VALUE;

    private static EvenBags of(String market) {
        EvenBags x = new EvenBags();
        Check.due("a market " + market, Check.market(x, market) > 0);
        return x;
    }

    /** A call that takes a SHEET as a row of a LANE, and needs 1 item at least. */
    private interface Taker {
        int take(int sheet, int lane, int i);
    }

    /** SHEET 0 is missing, SHEET 1 is of ints and just long enough from item i on, SHEET 2 is of bytes. */
    private static void refusals(String name, Taker call, int i) {
        for (int bad : new int[] {-1, 4, MIN, MAX}) {
            Check.due(name + " bad sheet", call.take(bad, 0, 0), EvenBags.BAD);
            Check.due(name + " bad lane", call.take(1, bad, i), EvenBags.BAD);
            Check.due(name + " bad ahead of null", call.take(0, bad, 0), EvenBags.BAD);
        }
        Check.due(name + " null", call.take(0, 2, i), EvenBags.NULL);
        Check.due(name + " null ahead of index", call.take(0, 2, -1), EvenBags.NULL);
        for (int lane : new int[] {0, 1, 3}) {
            Check.due(name + " cast", call.take(1, lane, i), EvenBags.CAST);
            Check.due(name + " cast ahead of index", call.take(1, lane, MAX), EvenBags.CAST);
        }
        for (int index : new int[] {-1, i + 1, 16, 17, MIN, MAX, MAX - 1, MAX - 7}) {
            Check.due(name + " index " + index, call.take(1, 2, index), EvenBags.INDEX);
        }
        Check.due(name + " fine", call.take(1, 2, i) >= 0);
    }

    private static void tray() {
        EvenBags x = of("p5,p5,p7,p1,p99");
        Check.fill(x, 1, 2, 9, 0, -1, -2, -1, 1, -1, -1, -1);
        Check.fill(x, 2, 0, 0);
        refusals("30 tray", (s, l, i) -> x.tray(s, l, i, 0, 0), 1);
        for (int bad : new int[] {-1, 10000, MIN, MAX}) {
            Check.due("30 limit bad", x.tray(1, 2, 1, bad, 0), EvenBags.BAD);
            Check.due("30 what bad", x.tray(1, 2, 1, 0, bad == 10000 ? 3 : bad), EvenBags.BAD);
            Check.due("30 bad ahead of null", x.tray(0, 2, 1, bad, 0), EvenBags.BAD);
        }
        Check.due("30 not", x.tray(1, 2, 0, 0, 0), EvenBags.NOT);
        Check.due("30 not", x.tray(1, 2, 0, 0, 1), EvenBags.NOT);
        // 5 far and 5 near: level, but with one of them 15
        Check.due("30 level", x.tray(1, 2, 1, 0, 0), 0);
        Check.due("30 in no order", x.tray(1, 2, 1, 14, 1), 0);
        Check.due("30 none is safe", x.tray(1, 2, 1, 14, 2), 0);
        Check.due("30 in both orders", x.tray(1, 2, 1, 15, 1), 2);
        Check.due("30 both are safe", x.tray(1, 2, 1, 15, 2), 1 + 16);
        // 7 at the right: x 21
        x.item(1, 2, 3, 2);
        Check.due("30 tips", x.tray(1, 2, 1, 20, 0), 1);
        Check.due("30 in no order", x.tray(1, 2, 1, 20, 1), 0);
        Check.due("30 that one is safe", x.tray(1, 2, 1, 20, 2), 4);
        Check.due("30 does not tip", x.tray(1, 2, 1, 21, 0), 0);
        Check.due("30 in all orders", x.tray(1, 2, 1, 21, 1), 6);
        Check.due("30 all are safe", x.tray(1, 2, 1, 21, 2), 1 + 4 + 16);
        x.item(1, 2, 3, 0);
        Check.due("30 twice", x.tray(1, 2, 1, 99, 0), EvenBags.NOT);
        x.item(1, 2, 3, 5);
        Check.due("30 no thing", x.tray(1, 2, 1, 99, 0), EvenBags.NOT);
        for (int lane = 0; lane < 4; lane++) {
            Check.fill(x, 3, lane, 3, 4, -1, -1, -1, -1, -1, -1, -128);
            Check.due("30 a lane", x.tray(3, lane, 0, 9999, 1), 2);
        }
        Check.fill(x, 3, 3, 1L << 32, -1, -1, -1, -1, -1, -1, -1);
        Check.due("30 a long is no thing", x.tray(3, 3, 0, 9999, 0), EvenBags.NOT);
        Check.fill(x, 3, 3, Long.MIN_VALUE, -1, -1, -1, -1, -1, -1, -1);
        Check.due("30 an empty tray", x.tray(3, 3, 0, 0, 0), 0);
        Check.due("30 an empty tray", x.tray(3, 3, 0, 0, 1), 1);
        Check.due("30 an empty tray", x.tray(3, 3, 0, 0, 2), 0);
    }

    /** One THING of weight 10 alone, at each place. */
    private static void places() {
        EvenBags x = of("p10");
        int[] most = {30, 20, 30, 20, 30, 20, 30, 20};
        for (int p = 0; p < 8; p++) {
            x.sheet(0, 1, 8);
            for (int q = 0; q < 8; q++) {
                x.item(0, 1, q, q == p ? 0 : -1);
            }
            Check.due("30 place " + p + " tips", x.tray(0, 1, 0, most[p] - 1, 0), 1);
            Check.due("30 place " + p + " does not", x.tray(0, 1, 0, most[p], 0), 0);
            Check.due("30 place " + p + " is safe", x.tray(0, 1, 0, 0, 2), 1 << p);
        }
        EvenBags y = of("p10,p10");
        for (int p = 0; p < 8; p++) {
            y.sheet(0, 1, 8);
            for (int q = 0; q < 8; q++) {
                y.item(0, 1, q, q == p ? 0 : q == (p + 4) % 8 ? 1 : -1);
            }
            Check.due("30 opposite ones are level", y.tray(0, 1, 0, 0, 0), 0);
        }
    }

    /** All eight places: in every order, and where the first must be one of two. */
    private static void fullTray() {
        EvenBags x = of("p9,p9,p9,p9,p9,p9,p9,p9");
        Check.fill(x, 0, 0, 0, 1, 2, 3, 4, 5, 6, 7);
        Check.due("30 all orders", x.tray(0, 0, 0, 9999, 1), 40320);
        Check.due("30 all are safe", x.tray(0, 0, 0, 27, 2), 255);
        Check.due("30 the near ones are safe", x.tray(0, 0, 0, 26, 2), 2 + 8 + 32 + 128);
        Check.due("30 none is safe", x.tray(0, 0, 0, 17, 2), 0);
        Check.due("30 it stands", x.tray(0, 0, 0, 0, 0), 0);
    }

    private static void pulled() {
        EvenBags x = of("p2,p3,p2;10,10");
        x.set(1, 2, 1);
        Check.fill(x, 1, 2, 9, 0, 0);
        Check.fill(x, 2, 0, 0);
        refusals("31 pulled", (s, l, i) -> x.pulled(s, l, i, 0), 1);
        for (int bad : new int[] {-1, 3, MIN, MAX}) {
            Check.due("31 what bad", x.pulled(1, 2, 1, bad), EvenBags.BAD);
            Check.due("31 bad ahead of null", x.pulled(0, 2, 1, bad), EvenBags.BAD);
        }
        // nothing pulls: all on the shoulder
        Check.due("31 how many", x.pulled(1, 2, 1, 0), 1);
        Check.due("31 the first", x.pulled(1, 2, 1, 1), 26);
        Check.due("31 sure", x.pulled(1, 2, 1, 2), 7);
        // 6 left: one of the 2 there, on the second stretch too; the 3 right on the first: 6 - 6
        x.item(1, 2, 2, 6);
        Check.due("31 how many", x.pulled(1, 2, 1, 0), 2);
        Check.due("31 the first", x.pulled(1, 2, 1, 1), 0 * 9 + 1 * 3 + 2);
        Check.due("31 sure", x.pulled(1, 2, 1, 2), 2);
        x.rule(0, 2, 1);
        Check.due("31 lawful ones only", x.pulled(1, 2, 1, 0), 0);
        Check.due("31 none", x.pulled(1, 2, 1, 1), EvenBags.NONE);
        Check.due("31 none", x.pulled(1, 2, 1, 2), EvenBags.NONE);
        x.off();
        x.set(2, 2, 0);
        // the last one is nowhere carried: in any bag
        Check.due("31 how many", x.pulled(1, 2, 1, 0), 3);
        Check.due("31 the first", x.pulled(1, 2, 1, 1), 3);
        Check.due("31 sure", x.pulled(1, 2, 1, 2), 3);
        x.item(1, 2, 1, -6);
        x.item(1, 2, 2, 0);
        Check.due("31 below 0", x.pulled(1, 2, 1, 0), 3);
        Check.due("31 below 0", x.pulled(1, 2, 1, 1), 2 * 9 + 3);
        Check.fill(x, 3, 3, (1L << 32) - 6, 0);
        Check.due("31 longs as they are", x.pulled(3, 3, 0, 0), 0);
        Check.fill(x, 2, 0, -6, 0);
        Check.due("31 bytes", x.pulled(2, 0, 0, 0), 3);
        Check.fill(x, 2, 1, -6, 0);
        Check.due("31 shorts", x.pulled(2, 1, 0, 0), 3);
        EvenBags y = new EvenBags();
        y.sheet(0, 0, 3);
        Check.due("31 no things, no way", y.pulled(0, 0, 3, 0), 1);
        Check.due("31 no things, no way", y.pulled(0, 0, 0, 1), 0);
        Check.due("31 no things, no way", y.pulled(0, 0, 0, 2), 0);
        for (int t = 0; t < 10; t++) {
            y.thing(0, 1);
        }
        Check.due("31 all packings", y.pulled(0, 0, 0, 0), 59049);
        Check.due("31 all packings", y.pulled(0, 0, 0, 1), 0);
        Check.due("31 all packings", y.pulled(0, 0, 0, 2), 0);
        y.stretch(1, false);
        Check.due("31 none, 2 and 3, or 4 and 6 of them", y.pulled(0, 0, 0, 0), 1 + 2520 + 210);
    }

    private static void film() {
        EvenBags x = of("p99,p1@1;5,5u,5");
        x.arm(1, 9);
        x.sheet(1, 2, 4);
        x.sheet(2, 0, 16);
        refusals("32 film", (s, l, i) -> x.film(s, l, i), 1);
        Check.due("32 how many", x.film(2, 0, 13), 3);
        // 900 is 3 * 256 + 132, 891 is 3 * 256 + 123; bytes are from -128 on
        Check.due("32 its bytes are not it", x.pulled(2, 0, 13, 0), 0);
        x.arm(1, 3);
        x.set(0, 1, 30);
        Check.due("32 film", x.film(2, 0, 0), 3);
        Check.due("32 found again", x.pulled(2, 0, 0, 1), 0);
        Check.due("32 in bytes", x.pulled(2, 0, 0, 0), 1);
        x.film(1, 2, 1);
        x.set(0, 4, 1);
        Check.due("32 a picture stays", x.pulled(1, 2, 1, 1), 0);
        Check.due("32 film below 0", x.film(1, 2, 0), 3);
        Check.due("32 below 0", x.pulled(1, 2, 0, 1), 3);
        EvenBags y = of("p10;1");
        y.set(0, 1, 86);
        y.sheet(0, 0, 1);
        y.film(0, 0, 0);
        y.set(0, 1, 1);
        y.arm(0, 1);
        y.arm(1, 2);
        // 86 * 3 is 258: as a byte 2, which is what 1 * 2 pulls
        Check.due("32 the lowest bits", y.pulled(0, 0, 0, 0), 1);
        Check.due("32 the lowest bits", y.pulled(0, 0, 0, 1), 0);
        EvenBags z = new EvenBags();
        z.sheet(0, 0, 2);
        Check.due("32 no way", z.film(0, 0, 2), 0);
        Check.due("32 no way, beyond", z.film(0, 0, 3), EvenBags.INDEX);
        Check.due("32 no way, null", z.film(1, 0, 0), EvenBags.NULL);
    }

    /** An INDEX that is refused leaves all items. */
    private static void filmRefused() {
        EvenBags x = of("p1,p1,p1;1,1");
        Check.fill(x, 0, 2, 2, 2, 2);
        Check.due("32 index", x.film(0, 2, 2), EvenBags.INDEX);
        x.lay(0, 2, 0);
        Check.due("32 nothing written", x.told(2, 4), 2);
    }

    private static void lay() {
        EvenBags x = of("p5,s4,p3;1");
        Check.fill(x, 1, 2, 0, 2, 1, 0);
        Check.fill(x, 2, 0, 0);
        refusals("33 lay", (s, l, i) -> x.lay(s, l, i), 1);
        Check.due("33 laid", x.told(0, 4) * 100 + x.told(1, 4) * 10 + x.told(2, 4), 210);
        Check.due("33 lawful", x.lay(1, 2, 1), 0);
        for (long no : new long[] {-1, 3, MIN, MAX}) {
            x.item(1, 2, 3, no);
            x.item(1, 2, 1, 0);
            Check.due("33 not", x.lay(1, 2, 1), EvenBags.NOT);
            Check.due("33 not changes nothing", x.told(0, 4) * 100 + x.told(1, 4) * 10 + x.told(2, 4), 210);
        }
        Check.fill(x, 3, 3, 1, 1, 1L << 32);
        Check.due("33 a long is no bag", x.lay(3, 3, 0), EvenBags.NOT);
        Check.fill(x, 3, 3, 1, 1, 0);
        Check.due("33 soft", x.lay(3, 3, 0), 3);
        Check.due("33 laid all the same", x.told(0, 4) * 100 + x.told(1, 4) * 10 + x.told(2, 4), 110);
        x.rule(0, 2, 1);
        Check.due("33 a law", x.lay(3, 3, 0), 2);
        x.bag(1, 0, 8);
        Check.due("33 not held", x.lay(3, 3, 0), 1);
        Check.due("33 no things", new EvenBags().lay(0, 0, 0), EvenBags.NULL);
    }

    private static void sheetAndDrop() {
        EvenBags x = new EvenBags();
        for (int bad : new int[] {-1, 4, MIN, MAX}) {
            Check.due("34 sheet bad", x.sheet(bad, 0, 1), EvenBags.BAD);
            Check.due("34 lane bad", x.sheet(0, bad, 1), EvenBags.BAD);
            Check.due("34 bad ahead of size", x.sheet(bad, 0, -1), EvenBags.BAD);
            Check.due("35 drop bad", x.drop(bad), EvenBags.BAD);
        }
        for (int n : new int[] {17, MAX}) {
            Check.due("34 n bad", x.sheet(0, 0, n), EvenBags.BAD);
        }
        Check.due("34 nothing came", x.drop(0), EvenBags.NULL);
        for (int s = 0; s < 4; s++) {
            Check.due("34 sheet", x.sheet(s, s, 13 + s), 13 + s);
        }
        for (int n : new int[] {-1, MIN}) {
            Check.due("34 size", x.sheet(0, 1, n), EvenBags.SIZE);
        }
        for (int s = 0; s < 4; s++) {
            Check.due("35 drop", x.drop(s), 13 + s);
            Check.due("35 null", x.drop(s), EvenBags.NULL);
        }
        Check.due("34 none", x.sheet(0, 0, 0), 0);
        Check.due("34 an empty row is a row", x.item(0, 0, 0, 1), EvenBags.INDEX);
        Check.due("35 an empty row", x.drop(0), 0);
        Check.market(x, "p1,p1");
        Check.fill(x, 0, 1, 2, 2);
        x.sheet(0, 1, 2);
        x.lay(0, 1, 0);
        Check.due("34 a new row is of 0s", x.told(0, 4) + x.told(1, 4), 0);
        Check.fill(x, 0, 1, 2, 2);
        x.drop(0);
        x.sheet(0, 2, 3);
        Check.due("34 another lane", x.item(0, 1, 0, 1), EvenBags.CAST);
        Check.due("34 a row of 0s", x.lay(0, 2, 0), 0);
        Check.due("34 a row of 0s", x.told(0, 4) + x.told(1, 4), 0);
    }

    private static void item() {
        EvenBags x = of("p1");
        x.sheet(1, 2, 2);
        x.sheet(2, 0, 16);
        refusals("36 item", (s, l, i) -> x.item(s, l, i, 1), 1);
        long[] wraps = {1L << 8, 1L << 16, 1L << 32};
        for (int lane = 0; lane < 4; lane++) {
            x.sheet(3, lane, 1);
            Check.due("36 item", x.item(3, lane, 0, 2), 1);
            Check.due("36 laid", x.lay(3, lane, 0) * 10 + x.told(0, 4), 2);
            for (int k = 0; k < 3; k++) {
                Check.due("36 item", x.item(3, lane, 0, wraps[k] + 1), 1);
                Check.due("36 lane " + lane + " wraps at " + wraps[k], x.lay(3, lane, 0), k >= lane ? 0 : EvenBags.NOT);
                x.set(0, 4, 0);
            }
        }
        x.stretch(1, false);
        x.set(0, 1, 64);
        x.set(0, 4, 1);
        Check.fill(x, 3, 0, 128);
        Check.due("36 128 as a byte is -128", x.pulled(3, 0, 0, 1), 1);
        Check.fill(x, 3, 1, 65536 - 128);
        Check.due("36 as a short", x.pulled(3, 1, 0, 1), 1);
        Check.fill(x, 3, 2, (1L << 32) - 128);
        Check.due("36 as an int", x.pulled(3, 2, 0, 1), 1);
        Check.fill(x, 3, 3, -128);
        Check.due("36 as a long", x.pulled(3, 3, 0, 1), 1);
    }

    private static void bags(String call, EvenBags x, int sheet, int lane, int... due) {
        x.lay(sheet, lane, 0);
        for (int t = 0; t < due.length; t++) {
            Check.due(call + " item " + t, x.told(t, 4), due[t]);
        }
    }

    private static void copy() {
        EvenBags x = of("p1,p1,p1,p1");
        for (int bad : new int[] {-1, 4, MIN, MAX}) {
            Check.due("37 from bad", x.copy(bad, 0, 0, 0, 0), EvenBags.BAD);
            Check.due("37 to bad", x.copy(0, 0, bad, 0, 0), EvenBags.BAD);
        }
        Check.fill(x, 0, 1, 0, 1, 2, 0);
        Check.due("37 no target", x.copy(0, 0, 1, 0, 1), EvenBags.NULL);
        Check.due("37 no source", x.copy(1, 0, 0, 0, 1), EvenBags.NULL);
        Check.due("37 null ahead of index", x.copy(0, -1, 1, 0, 1), EvenBags.NULL);
        Check.fill(x, 1, 2, 0, 0, 0, 0);
        Check.due("37 unlike lanes", x.copy(0, 0, 1, 0, 1), EvenBags.CAST);
        Check.due("37 cast ahead of index", x.copy(0, 9, 1, 0, 1), EvenBags.CAST);
        Check.fill(x, 2, 1, 2, 2, 2, 2, 2, 2);
        for (int[] bad : new int[][] {{-1, 0, 1}, {0, -1, 1}, {0, 0, -1}, {4, 0, 1}, {0, 6, 1}, {0, 0, 5}, {1, 0, 4}, {0, 3, 4},
            {MAX, 0, 1}, {0, MAX, 1}, {1, 1, MAX}, {MIN, 0, 1}, {0, MIN, 1}, {0, 0, MIN}, {5, 0, 0}, {0, 7, 0}, {MAX, 0, MAX}}) {
            Check.due("37 index", x.copy(0, bad[0], 2, bad[1], bad[2]), EvenBags.INDEX);
        }
        Check.due("37 none", x.copy(0, 4, 2, 6, 0), 0);
        bags("37 as it was", x, 2, 1, 2, 2, 2, 2);
        Check.due("37 copy", x.copy(0, 0, 2, 1, 2), 2);
        bags("37 copied", x, 2, 1, 2, 0, 1, 2);
        Check.due("37 copy all", x.copy(0, 0, 2, 0, 4), 4);
        bags("37 copied all", x, 2, 1, 0, 1, 2, 0);
        Check.due("37 the same, onwards", x.copy(0, 0, 0, 1, 3), 3);
        bags("37 as if taken ahead", x, 0, 1, 0, 0, 1, 2);
        Check.due("37 the same, backwards", x.copy(0, 1, 0, 0, 3), 3);
        bags("37 as if taken ahead", x, 0, 1, 0, 1, 2, 2);
    }

    public static void main(String[] args) {
        tray();
        places();
        fullTray();
        pulled();
        film();
        filmRefused();
        lay();
        sheetAndDrop();
        item();
        copy();
        Check.end();
    }
}
