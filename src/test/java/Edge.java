import java.util.IdentityHashMap;
import java.util.Map;

/** States in which calls are tried at their bounds, and what is asked of a call there. */
final class Edge {
    static final int MIN = Integer.MIN_VALUE, MAX = Integer.MAX_VALUE;
    static final int BAD = EvenBags.BAD, NOT = EvenBags.NOT, FULL = EvenBags.FULL, NONE = EvenBags.NONE;
    static final int NULL = EvenBags.NULL, CAST = EvenBags.CAST, INDEX = EvenBags.INDEX, SIZE = EvenBags.SIZE;

    static final Whole.Making EMPTY = EvenBags::new, SOME = Edge::some, ALL = Edge::all;

    private static final Map<Whole.Making, String> WHOLES = new IdentityHashMap<>();

    private Edge() {
    }

    static EvenBags of(String market, int... bags) {
        EvenBags x = new EvenBags();
        Check.due("market " + market, Check.market(x, market) > 0);
        pack(x, bags);
        return x;
    }

    static void pack(EvenBags x, int... bags) {
        for (int t = 0; t < bags.length; t++) {
            x.set(t, 4, bags[t]);
        }
    }

    static void arms(EvenBags x, int left, int right) {
        x.arm(0, left);
        x.arm(1, right);
    }

    /** Six THINGS, four STRETCHES, two LAWS, two BARS, an IMAGE of something else, SHEET 0 missing, a begun TAPE. */
    private static EvenBags some() {
        EvenBags x = new EvenBags();
        Check.market(x, "i3,s4@1;5u");
        x.bag(0, 0, 77);
        x.rule(0, 1, 0);
        x.bar(1, 0);
        x.image();
        Check.market(x, "p12,i20@4,s3,f15@3,p7@2,p30;10,5u,20,8");
        int[] stalls = {60, 30, 85, 50, 45, 100};
        for (int t = 0; t < stalls.length; t++) {
            x.set(t, 3, stalls[t]);
            x.set(t, 4, t % 3);
        }
        x.rule(0, 3, 1);
        x.rule(1, 5, 0);
        x.bar(0, 1);
        x.bar(10, 2);
        x.bag(0, 0, 500);
        x.bag(1, 1, 399);
        x.arm(0, 4);
        Check.fill(x, 1, 2, -1, 0, 1, 2, -1, -1, -1, -1, -1);
        Check.fill(x, 2, 0, 0, 1, 2, 0, 1, 2, 1);
        Check.fill(x, 3, 3, 1, 1, 1, 1, 2, 2, 2, 2, 0, 0, 0, 0, -1, -1, -1, -1);
        x.type('p');
        x.type('1');
        return x;
    }

    /** As many THINGS, STRETCHES, LAWS, BARS, letters and items as there can be. */
    private static EvenBags all() {
        EvenBags x = new EvenBags();
        for (int t = 0; t < 10; t++) {
            x.thing(t % 4, t + 1);
        }
        for (int s = 0; s < 5; s++) {
            x.stretch(s + 1, s % 2 == 0);
        }
        for (int k = 0; k < 8; k++) {
            x.rule(k, k + 1, 1);
        }
        for (int b = 0; b < 6; b++) {
            x.bar(b == 0 ? 6 : 9 + b, b);
        }
        for (int s = 0; s < 4; s++) {
            Check.fill(x, s, s, 0, 1, 2, 0, 1, 2, 0, 1, 2, 0, 1, 2, -1, -1, -1, -1);
        }
        for (int k = 0; k < 80; k++) {
            x.type(k == 0 ? 'p' : k == 1 ? '7' : ' ');
        }
        return x;
    }

    private static String whole(Whole.Making state) {
        return WHOLES.computeIfAbsent(state, Whole::of);
    }

    static void changesNothing(Whole.Making state, Call call) {
        Check.same(call + " changes nothing", Whole.of(() -> {
            EvenBags x = state.make();
            call.on(x);
            return x;
        }), whole(state));
    }

    /** The call is refused so, and nothing has changed behind it. */
    static void refused(Whole.Making state, Call call, int due) {
        Check.due(call.toString(), call.on(state.make()), due);
        changesNothing(state, call);
    }

    static void refused(Whole.Making state, int due, String name, Object... with) {
        refused(state, Call.of(name, with), due);
    }

    static void accepted(Whole.Making state, Call call) {
        accepted(state, call, 0);
    }

    private static void accepted(Whole.Making state, Call call, int least) {
        int got = call.on(state.make());
        Check.due(call + " is not refused but " + got, got >= least);
    }

    /** With the argument at that place from least to most a call is fine; with any other one it is refused. */
    static void bounds(Whole.Making state, Call call, int place, int least, int most, int refusal) {
        bounds(state, call, place, least, most, refusal, refusal);
    }

    static void bounds(Whole.Making state, Call call, int place, int least, int most, int below, int above) {
        // what may itself be below 0 is refused by far less
        int leastAnswer = below < -9999999 ? -9999999 : 0;
        accepted(state, call.but(place, least), leastAnswer);
        accepted(state, call.but(place, most), leastAnswer);
        refused(state, call.but(place, least - 1), below);
        refused(state, call.but(place, MIN), below);
        refused(state, call.but(place, most + 1), above);
        refused(state, call.but(place, MAX), above);
    }

    static void fraction(String call, int upper, int lower, int wantUpper, int wantLower) {
        Check.due(call + " upper", upper, wantUpper);
        Check.due(call + " lower", lower, wantLower);
    }

    /** The BAGS of THINGS, told one after another, as digits. */
    static int packing(EvenBags x) {
        int row = 0;
        for (int t = 0; t < x.count(0); t++) {
            row = row * 10 + x.told(t, 4);
        }
        return row;
    }

    static int best(EvenBags x) {
        int row = 0;
        for (int t = 0; t < x.count(0); t++) {
            row = row * 10 + x.best(t);
        }
        return row;
    }

    static int evenest(EvenBags x, int stretch) {
        int row = 0;
        for (int t = 0; t < x.count(0); t++) {
            row = row * 10 + x.evenest(stretch, t);
        }
        return row;
    }

    static int moved(EvenBags x, int stretch, int limit) {
        int row = 0;
        for (int t = 0; t < x.count(0); t++) {
            row = row * 10 + x.moved(stretch, limit, t);
        }
        return row;
    }

    static int buying(EvenBags x) {
        int row = 0;
        for (int t = 0; t < x.count(0); t++) {
            row = row * 10 + x.buying(t);
        }
        return row;
    }
}
