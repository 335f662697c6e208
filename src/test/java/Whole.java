/** All that can be told of an object, by asking new ones that were made in the same way. */
final class Whole {
    interface Making {
        EvenBags make();
    }

    private Whole() {
    }

    /** A text for all of it; each part is asked of an object of its own, for some questions change it. */
    static String of(Making making) {
        StringBuilder s = new StringBuilder();
        now(making, s);
        s.append(" | image ").append(making.make().restore());
        now(() -> restored(making), s);
        s.append(" | tape ");
        tape(making.make(), s);
        for (int sheet = 0; sheet < 4; sheet++) {
            s.append(" | sheet ").append(sheet);
            sheet(making.make(), sheet, s);
        }
        return s.toString();
    }

    private static EvenBags restored(Making making) {
        EvenBags x = making.make();
        x.restore();
        return x;
    }

    private static void now(Making making, StringBuilder s) {
        goods(making.make(), s);
        bags(making.make(), s);
        laws(making.make(), s);
    }

    private static void tell(StringBuilder s, int answer) {
        s.append(' ').append(answer);
    }

    private static void goods(EvenBags x, StringBuilder s) {
        for (int what = 0; what < 7; what++) {
            tell(s, x.count(what));
        }
        for (int t = 0; t < x.count(0); t++) {
            s.append(" thing");
            for (int what = 0; what < 6; what++) {
                tell(s, x.told(t, what));
            }
        }
        for (int r = 0; r < x.count(1); r++) {
            s.append(" stretch");
            tell(s, x.of(r, 0));
            tell(s, x.of(r, 1));
        }
        for (int b = 0; b < x.count(3); b++) {
            s.append(" bar");
            for (int what = 0; what < 3; what++) {
                tell(s, x.hung(b, what));
            }
        }
    }

    private static void bags(EvenBags x, StringBuilder s) {
        s.append(" bags");
        for (int b = 0; b < 3; b++) {
            tell(s, x.bag(b, 0, 1));
            tell(s, x.bag(b, 1, 1));
        }
    }

    /** Which LAWS hold where one THING is RIGHT and all others are LEFT, with one LAW less each time. */
    private static void laws(EvenBags x, StringBuilder s) {
        for (int b = 0; b < 3; b++) {
            x.bag(b, 0, 999);
        }
        for (int t = 0; t < x.count(0); t++) {
            x.set(t, 1, 1);
            x.set(t, 4, 0);
        }
        int laws = x.count(2);
        for (int k = 0; k < laws; k++) {
            s.append(" law");
            for (int t = 0; t < x.count(0); t++) {
                x.set(t, 4, 1);
                tell(s, x.lawful());
                x.set(t, 4, 0);
            }
            tell(s, x.off());
        }
    }

    private static void tape(EvenBags x, StringBuilder s) {
        tell(s, x.type(' '));
        tell(s, x.market());
        goods(x, s);
    }

    /** Items 0, 1, 2 are told by lay, -1 and 1 by pulled. */
    private static void sheet(EvenBags x, int sheet, StringBuilder s) {
        x.market();
        Check.market(x, "p1;1");
        x.arm(0, 1);
        x.arm(1, 1);
        for (int lane = 0; lane < 4; lane++) {
            tell(s, x.item(sheet, lane, 16, 0));
            for (int i = 0; i < 16; i++) {
                int why = x.lay(sheet, lane, i);
                if (why != EvenBags.NULL && why != EvenBags.CAST && why != EvenBags.INDEX) {
                    tell(s, why == 0 ? x.told(0, 4) : why);
                    tell(s, x.pulled(sheet, lane, i, 1));
                }
            }
        }
        tell(s, x.drop(sheet));
        tell(s, x.drop(sheet));
    }
}
