/** Counts answers that are not the ones due. */
final class Check {
    private static int asked = 0;
    private static int wrong = 0;
    private static String about = "";

    private Check() {
    }

    /** What the answers from here on are about. */
    static void about(String words) {
        about = words + ": ";
    }

    static void due(String call, long got, long want) {
        asked++;
        if (got != want) {
            fault(call + " answered " + got + ", due is " + want);
        }
    }

    static void due(String call, boolean fine) {
        due(call, fine ? 1 : 0, 1);
    }

    static void same(String call, String got, String want) {
        asked++;
        if (!got.equals(want)) {
            fault(call + "\n    is  " + got + "\n    due " + want);
        }
    }

    private static void fault(String words) {
        wrong++;
        if (wrong <= 40) {
            System.out.println(about + words);
        }
    }

    /** Types a text on THE TAPE and takes it as a MARKET. */
    static int market(EvenBags x, String text) {
        for (char c : text.toCharArray()) {
            x.type(c);
        }
        return x.market();
    }

    /** A SHEET of a LANE becomes these items. */
    static void fill(EvenBags x, int sheet, int lane, long... items) {
        x.sheet(sheet, lane, items.length);
        for (int i = 0; i < items.length; i++) {
            x.item(sheet, lane, i, items[i]);
        }
    }

    static int wrong() {
        return wrong;
    }

    static void end() {
        System.out.println(asked + " answers, " + wrong + " of them not as due");
        if (wrong != 0 || asked == 0) {
            System.exit(1);
        }
    }
}
