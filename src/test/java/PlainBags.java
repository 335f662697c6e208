import java.util.ArrayList;
import java.util.List;

/**
 * The document again, written as slowly and as near to its words as can be: every PACKING is looked at, every
 * order is walked, nothing is kept from one call to the next. RandomRunsTest holds EvenBags against it.
 */
final class PlainBags {
    private static final int BAD = -1, NOT = -2, FULL = -3, NONE = -4, NULL = -11, CAST = -12, INDEX = -13, SIZE = -14;

    private static final class Thing {
        int kind, weight, stop = 5, stall, bag;

        Thing again() {
            Thing t = new Thing();
            t.kind = kind;
            t.weight = weight;
            t.stop = stop;
            t.stall = stall;
            t.bag = bag;
            return t;
        }

        int on(int stretch) {
            if (stretch >= stop) {
                return 0;
            }
            int w = weight;
            for (int s = 0; s < stretch; s++) {
                w = Math.max(0, kind == 1 ? w - 1 : kind == 3 ? w - 2 : w);
            }
            return w;
        }
    }

    private static final class State {
        List<Thing> things = new ArrayList<>();
        List<int[]> stretches = new ArrayList<>();
        List<int[]> laws = new ArrayList<>();
        List<int[]> bars = new ArrayList<>();
        int[] holds = {999, 999, 999};
        int[] gives = {0, 0, 0};
        int[] strength = {2, 3};

        State again() {
            State s = new State();
            for (Thing t : things) {
                s.things.add(t.again());
            }
            s.stretches.addAll(stretches);
            s.laws.addAll(laws);
            s.bars.addAll(bars);
            s.holds = holds.clone();
            s.gives = gives.clone();
            s.strength = strength.clone();
            return s;
        }
    }

    private State st = new State();
    private State image = null;
    private String tape = "";
    private final long[][] rows = new long[4][];
    private final int[] lanes = new int[4];

    private boolean noThing(int t) {
        return t < 0 || t >= st.things.size();
    }

    private boolean noStretch(int s) {
        return s < 0 || s >= st.stretches.size();
    }

    int thing(int kind, int weight) {
        if (kind < 0 || kind > 3 || weight < 1 || weight > 99) {
            return BAD;
        }
        if (st.things.size() == 10) {
            return FULL;
        }
        Thing t = new Thing();
        t.kind = kind;
        t.weight = weight;
        st.things.add(t);
        return st.things.size() - 1;
    }

    int told(int thing, int what) {
        if (noThing(thing) || what < 0 || what > 5) {
            return BAD;
        }
        Thing t = st.things.get(thing);
        return new int[] {t.kind, t.weight, t.stop, t.stall + 50, t.bag, hangs(thing) ? 1 : 0}[what];
    }

    int set(int thing, int what, int v) {
        int was = told(thing, what);
        if (was < 0 || what == 0 || what == 5) {
            return BAD;
        }
        Thing t = st.things.get(thing);
        if (what == 1 && v >= 1 && v <= 99) {
            t.weight = v;
        } else if (what == 2 && v >= 0 && v <= 5) {
            t.stop = v;
        } else if (what == 3 && v >= 0 && v <= 100) {
            t.stall = v - 50;
        } else if (what == 4 && v >= 0 && v <= 2) {
            t.bag = v;
        } else {
            return BAD;
        }
        return was;
    }

    int stretch(int yards, boolean uphill) {
        if (yards < 1 || yards > 99) {
            return BAD;
        }
        if (st.stretches.size() == 5) {
            return FULL;
        }
        st.stretches.add(new int[] {yards, uphill ? 1 : 0});
        return st.stretches.size() - 1;
    }

    int of(int stretch, int what) {
        return noStretch(stretch) || what < 0 || what > 1 ? BAD : st.stretches.get(stretch)[what];
    }

    int bag(int bag, int what, int v) {
        if (bag < 0 || bag > 2 || what < 0 || what > 1 || v < 0 || v > (what == 0 ? 999 : 9999)) {
            return BAD;
        }
        int[] row = what == 0 ? st.holds : st.gives;
        int was = row[bag];
        row[bag] = v;
        return was;
    }

    int arm(int arm, int v) {
        if (arm < 0 || arm > 1 || v < 1 || v > 9) {
            return BAD;
        }
        int was = st.strength[arm];
        st.strength[arm] = v;
        return was;
    }

    int rule(int a, int b, int what) {
        if (noThing(a) || noThing(b) || a == b || what < 0 || what > 1) {
            return BAD;
        }
        if (st.laws.size() == 8) {
            return FULL;
        }
        st.laws.add(new int[] {a, b, what});
        return st.laws.size() - 1;
    }

    int off() {
        if (st.laws.isEmpty()) {
            return NONE;
        }
        st.laws.remove(st.laws.size() - 1);
        return st.laws.size();
    }

    int type(int letter) {
        if (letter < 32 || letter > 126) {
            return BAD;
        }
        if (tape.length() == 80) {
            return FULL;
        }
        tape += (char) letter;
        return tape.length();
    }

    /** By a machine of states, letter by letter, not by parts as the class does it. */
    int market() {
        String text = tape;
        tape = "";
        State s = st.again();
        s.things.clear();
        s.stretches.clear();
        s.laws.clear();
        s.bars.clear();
        // what may come: 0 a KIND, 1 a WEIGHT, 2 behind a WEIGHT, 3 a STOP, 4 behind a STOP, 5 YARDS, 6 behind them, 7 behind u
        int may = 0;
        for (int i = 0; i < text.length(); i++) {
            char c = text.charAt(i);
            if (c == ' ') {
                continue;
            }
            int fault = -20 - i;
            boolean behind = may == 2 || may == 4 || may == 6 || may == 7;
            if (may == 0 && "pisf".indexOf(c) >= 0) {
                Thing t = new Thing();
                t.kind = "pisf".indexOf(c);
                s.things.add(t);
                may = 1;
            } else if ((may == 1 || may == 5) && c >= '0' && c <= '9') {
                int end = i;
                while (end < text.length() && text.charAt(end) >= '0' && text.charAt(end) <= '9') {
                    end++;
                }
                if (!text.substring(i, end).matches("[1-9]|[0-9][1-9]|[1-9]0")) {
                    return fault;
                }
                int v = Integer.parseInt(text.substring(i, end));
                if (may == 1) {
                    s.things.get(s.things.size() - 1).weight = v;
                } else {
                    s.stretches.add(new int[] {v, 0});
                }
                may++;
                i = end - 1;
            } else if (may == 2 && c == '@') {
                may = 3;
            } else if (may == 3 && c >= '0' && c <= '5') {
                s.things.get(s.things.size() - 1).stop = c - '0';
                may = 4;
            } else if (may == 6 && c == 'u') {
                s.stretches.get(s.stretches.size() - 1)[1] = 1;
                may = 7;
            } else if (behind && may < 5 && c == ',' && s.things.size() < 10) {
                may = 0;
            } else if (behind && may < 5 && c == ';') {
                may = 5;
            } else if (behind && may > 5 && c == ',' && s.stretches.size() < 5) {
                may = 5;
            } else {
                return fault;
            }
        }
        if (may != 2 && may != 4 && may != 6 && may != 7) {
            return -20 - text.length();
        }
        st = s;
        return s.things.size();
    }

    int count(int what) {
        int way = 0;
        for (int[] s : st.stretches) {
            way += s[0];
        }
        int[] all = {st.things.size(), st.stretches.size(), st.laws.size(), st.bars.size(), way, st.strength[0], st.strength[1]};
        return what < 0 || what > 6 ? BAD : all[what];
    }

    private int[] packing() {
        int[] p = new int[st.things.size()];
        for (int t = 0; t < p.length; t++) {
            p[t] = st.things.get(t).bag;
        }
        return p;
    }

    private int loadIn(int[] p, int bag, int stretch) {
        int sum = 0;
        for (int t = 0; t < p.length; t++) {
            if (p[t] == bag) {
                sum += st.things.get(t).on(stretch);
            }
        }
        return sum;
    }

    private int why(int[] p) {
        for (int s = 0; s < st.stretches.size(); s++) {
            for (int b = 0; b < 3; b++) {
                if (loadIn(p, b, s) > st.holds[b]) {
                    return 1;
                }
            }
        }
        for (int[] law : st.laws) {
            if ((p[law[0]] == p[law[1]]) != (law[2] == 1)) {
                return 2;
            }
        }
        for (int a = 0; a < p.length; a++) {
            for (int b = 0; b < p.length; b++) {
                if (p[a] == p[b] && st.things.get(a).kind == 2 && st.things.get(b).weight > st.things.get(a).weight) {
                    return 3;
                }
            }
        }
        return 0;
    }

    private int offIn(int[] p, int s) {
        return loadIn(p, 0, s) * st.strength[1] - loadIn(p, 1, s) * st.strength[0];
    }

    private int worst(int[] p) {
        int most = 0;
        for (int s = 0; s < st.stretches.size(); s++) {
            most = Math.max(most, Math.abs(offIn(p, s)));
        }
        return most;
    }

    private int whole(int[] p) {
        int sum = 0;
        for (int s = 0; s < st.stretches.size(); s++) {
            int[] w = st.stretches.get(s);
            sum += Math.abs(offIn(p, s)) * (w[1] == 1 ? 2 * w[0] : w[0]);
        }
        return sum;
    }

    /** The next row of numbers below most, the first as a row first; false behind the last one. */
    private static boolean next(int[] row, int most) {
        for (int i = row.length - 1; i >= 0; i--) {
            row[i]++;
            if (row[i] < most) {
                return true;
            }
            row[i] = 0;
        }
        return false;
    }

    int load(int bag, int stretch) {
        return bag < 0 || bag > 2 || noStretch(stretch) ? BAD : loadIn(packing(), bag, stretch);
    }

    int lawful() {
        return why(packing());
    }

    int pull(int stretch) {
        return noStretch(stretch) ? -10000001 : offIn(packing(), stretch);
    }

    int uneven(int what) {
        return what == 0 ? worst(packing()) : what == 1 ? whole(packing()) : BAD;
    }

    private int[] bestRow() {
        int[] best = null;
        int[] p = new int[st.things.size()];
        do {
            if (why(p) == 0 && (best == null || worst(p) < worst(best)
                || worst(p) == worst(best) && whole(p) < whole(best))) {
                best = p.clone();
            }
        } while (next(p, 3));
        return best;
    }

    int best(int thing) {
        if (thing < -2 || thing >= st.things.size()) {
            return BAD;
        }
        int[] b = bestRow();
        return b == null ? NONE : thing == -2 ? worst(b) : thing == -1 ? whole(b) : b[thing];
    }

    int pack() {
        int[] b = bestRow();
        if (b == null) {
            return NONE;
        }
        for (int t = 0; t < b.length; t++) {
            st.things.get(t).bag = b[t];
        }
        return worst(b);
    }

    int evenest(int stretch, int thing) {
        if (noStretch(stretch) || thing < -1 || thing >= st.things.size()) {
            return BAD;
        }
        int[] p = new int[st.things.size()];
        int[] least = p.clone();
        do {
            if (Math.abs(offIn(p, stretch)) < Math.abs(offIn(least, stretch))) {
                least = p.clone();
            }
        } while (next(p, 2));
        return thing == -1 ? Math.abs(offIn(least, stretch)) : least[thing];
    }

    int moved(int stretch, int limit, int thing) {
        if (noStretch(stretch) || limit < 0 || limit > 99999 || thing < -1 || thing >= st.things.size()) {
            return BAD;
        }
        int fewest = 99;
        int[] best = null;
        int[] p = new int[st.things.size()];
        do {
            boolean fine = why(p) == 0;
            for (int s = stretch; s < st.stretches.size(); s++) {
                fine &= Math.abs(offIn(p, s)) <= limit;
            }
            int moved = 0;
            for (int t = 0; t < p.length; t++) {
                moved += p[t] != st.things.get(t).bag ? 1 : 0;
            }
            if (fine && moved < fewest) {
                fewest = moved;
                best = p.clone();
            }
        } while (next(p, 3));
        return best == null ? NONE : thing == -1 ? fewest : best[thing];
    }

    private static int fraction(long upper, long lower, int what) {
        long d = java.math.BigInteger.valueOf(upper).gcd(java.math.BigInteger.valueOf(lower)).longValue();
        return (int) ((what == 0 ? upper : lower) / d);
    }

    int hands(int bag, int what) {
        if (bag < 0 || bag > 2 || what < 0 || what > 1) {
            return BAD;
        }
        long all = 0;
        for (int s = 0; s < st.stretches.size(); s++) {
            all += (long) load(bag, s) * st.stretches.get(s)[0] * (1 + st.stretches.get(s)[1]);
        }
        // the left one's part is all * l / (l + r); the way to it ends within a STRETCH
        long l = st.strength[0];
        long both = l + st.strength[1];
        long before = 0;
        long way = 0;
        for (int s = 0; s < st.stretches.size() && all > 0; s++) {
            long yards = st.stretches.get(s)[0];
            long rate = (long) load(bag, s) * (1 + st.stretches.get(s)[1]);
            if ((before + rate * yards) * both >= all * l) {
                return fraction(way * rate * both + all * l - before * both, rate * both, what);
            }
            before += rate * yards;
            way += yards;
        }
        return what;
    }

    int buying(int i) {
        if (i < -1 || i >= st.things.size()) {
            return BAD;
        }
        int n = st.things.size();
        int[] order = new int[n];
        long[] least = {Long.MAX_VALUE};
        int[] first = new int[n];
        walk(0, 0, 0, 0, order, new boolean[n], least, first);
        return i == -1 ? (int) least[0] : first[i];
    }

    private void walk(int k, int at, int carried, long cost, int[] order, boolean[] bought, long[] least, int[] first) {
        if (k == order.length) {
            long all = cost + (long) Math.abs(at) * carried;
            if (all < least[0]) {
                least[0] = all;
                System.arraycopy(order, 0, first, 0, k);
            }
            return;
        }
        for (int t = 0; t < order.length; t++) {
            if (!bought[t]) {
                Thing thing = st.things.get(t);
                bought[t] = true;
                order[k] = t;
                walk(k + 1, thing.stall, carried + thing.weight, cost + (long) Math.abs(thing.stall - at) * carried,
                    order, bought, least, first);
                bought[t] = false;
            }
        }
    }

    int paper(int bag, int what) {
        if (bag < 0 || bag > 2 || what < 0 || what > 1) {
            return BAD;
        }
        long sum = 0;
        long way = 0;
        for (int s = 0; s < st.stretches.size() && st.gives[bag] > 0; s++) {
            long wet = 0;
            for (Thing t : st.things) {
                wet += t.bag == bag && (t.kind == 1 || t.kind == 3) ? t.on(s) : 0;
            }
            for (int y = 0; y < st.stretches.get(s)[0]; y++) {
                if (sum + wet >= st.gives[bag]) {
                    return fraction(way * wet + st.gives[bag] - sum, wet, what);
                }
                sum += wet;
                way++;
            }
        }
        return NONE;
    }

    int pole(int a, int b, int length, int what) {
        if (noThing(a) || noThing(b) || a == b || length < 1 || length > 999 || what < 0 || what > 1) {
            return BAD;
        }
        int wa = st.things.get(a).weight;
        int wb = st.things.get(b).weight;
        return fraction((long) wb * length, wa + wb, what);
    }

    private boolean hangs(int end) {
        for (int[] bar : st.bars) {
            if (bar[0] == end || bar[1] == end) {
                return true;
            }
        }
        return false;
    }

    private boolean noEnd(int end) {
        return end < 0 || (end < 10 ? noThing(end) : end - 10 >= st.bars.size());
    }

    int bar(int first, int other) {
        if (noEnd(first) || noEnd(other) || first == other) {
            return BAD;
        }
        if (hangs(first) || hangs(other)) {
            return NOT;
        }
        if (st.bars.size() == 6) {
            return FULL;
        }
        st.bars.add(new int[] {first, other});
        return st.bars.size() - 1;
    }

    private int heavy(int end) {
        return end < 10 ? st.things.get(end).weight : heavy(st.bars.get(end - 10)[0]) + heavy(st.bars.get(end - 10)[1]);
    }

    int hung(int bar, int what) {
        if (bar < 0 || bar >= st.bars.size() || what < 0 || what > 2) {
            return BAD;
        }
        int a = heavy(st.bars.get(bar)[0]);
        int b = heavy(st.bars.get(bar)[1]);
        return what == 2 ? a + b : fraction(60L * b, a + b, what);
    }

    int image() {
        image = st.again();
        return 1;
    }

    int restore() {
        if (image == null) {
            return NONE;
        }
        st = image.again();
        return 1;
    }

    private int refused(int sheet, int lane, int i, int n) {
        if (sheet < 0 || sheet > 3 || lane < 0 || lane > 3) {
            return BAD;
        }
        if (rows[sheet] == null) {
            return NULL;
        }
        if (lanes[sheet] != lane) {
            return CAST;
        }
        return i < 0 || (long) i + n > rows[sheet].length ? INDEX : 0;
    }

    int tray(int sheet, int lane, int i, int limit, int what) {
        if (limit < 0 || limit > 9999 || what < 0 || what > 2) {
            return BAD;
        }
        int r = refused(sheet, lane, i, 8);
        if (r < 0) {
            return r;
        }
        int[] on = new int[8];
        List<Long> seen = new ArrayList<>();
        for (int p = 0; p < 8; p++) {
            long t = rows[sheet][i + p];
            if (t >= st.things.size() || t >= 0 && seen.contains(t)) {
                return NOT;
            }
            seen.add(t);
            on[p] = t < 0 ? 0 : st.things.get((int) t).weight;
        }
        if (what < 2) {
            return what == 0 ? (tips(on, limit) ? 1 : 0) : orders(on, limit);
        }
        int safe = 0;
        for (int p = 0; p < 8; p++) {
            int[] less = on.clone();
            less[p] = 0;
            safe |= on[p] > 0 && !tips(less, limit) ? 1 << p : 0;
        }
        return safe;
    }

    private static boolean tips(int[] on, int limit) {
        int[] x = {0, 2, 3, 2, 0, -2, -3, -2};
        int[] y = {3, 2, 0, -2, -3, -2, 0, 2};
        int a = 0;
        int b = 0;
        for (int p = 0; p < 8; p++) {
            a += on[p] * x[p];
            b += on[p] * y[p];
        }
        return Math.abs(a) > limit || Math.abs(b) > limit;
    }

    private static int orders(int[] on, int limit) {
        if (tips(on, limit)) {
            return 0;
        }
        int sum = 0;
        boolean empty = true;
        for (int p = 0; p < 8; p++) {
            if (on[p] > 0) {
                empty = false;
                int[] less = on.clone();
                less[p] = 0;
                sum += orders(less, limit);
            }
        }
        return empty ? 1 : sum;
    }

    int pulled(int sheet, int lane, int i, int what) {
        if (what < 0 || what > 2) {
            return BAD;
        }
        int r = refused(sheet, lane, i, st.stretches.size());
        if (r < 0) {
            return r;
        }
        int n = st.things.size();
        int many = 0;
        int number = 0;
        int first = -1;
        int sure = (1 << n) - 1;
        int[] firstRow = null;
        int[] p = new int[n];
        do {
            boolean so = why(p) == 0;
            for (int s = 0; s < st.stretches.size(); s++) {
                so &= rows[sheet][i + s] == offIn(p, s);
            }
            if (so) {
                many++;
                if (firstRow == null) {
                    firstRow = p.clone();
                    first = number;
                }
                for (int t = 0; t < n; t++) {
                    sure &= p[t] == firstRow[t] ? -1 : ~(1 << t);
                }
            }
            number++;
        } while (next(p, 3));
        return what == 0 ? many : many == 0 ? NONE : what == 1 ? first : sure;
    }

    private static long cut(int lane, long v) {
        int bits = 8 << lane;
        return v << (64 - bits) >> (64 - bits);
    }

    int film(int sheet, int lane, int i) {
        int r = refused(sheet, lane, i, st.stretches.size());
        for (int s = 0; r == 0 && s < st.stretches.size(); s++) {
            rows[sheet][i + s] = cut(lane, offIn(packing(), s));
        }
        return r < 0 ? r : st.stretches.size();
    }

    int lay(int sheet, int lane, int i) {
        int r = refused(sheet, lane, i, st.things.size());
        if (r < 0) {
            return r;
        }
        for (int t = 0; t < st.things.size(); t++) {
            if (rows[sheet][i + t] < 0 || rows[sheet][i + t] > 2) {
                return NOT;
            }
        }
        for (int t = 0; t < st.things.size(); t++) {
            st.things.get(t).bag = (int) rows[sheet][i + t];
        }
        return lawful();
    }

    int sheet(int sheet, int lane, int n) {
        if (sheet < 0 || sheet > 3 || lane < 0 || lane > 3 || n > 16) {
            return BAD;
        }
        if (n < 0) {
            return SIZE;
        }
        rows[sheet] = new long[n];
        lanes[sheet] = lane;
        return n;
    }

    int drop(int sheet) {
        if (sheet < 0 || sheet > 3) {
            return BAD;
        }
        if (rows[sheet] == null) {
            return NULL;
        }
        int had = rows[sheet].length;
        rows[sheet] = null;
        return had;
    }

    int item(int sheet, int lane, int i, long v) {
        int r = refused(sheet, lane, i, 1);
        if (r < 0) {
            return r;
        }
        rows[sheet][i] = cut(lane, v);
        return 1;
    }

    int copy(int from, int i, int to, int j, int n) {
        if (from < 0 || from > 3 || to < 0 || to > 3) {
            return BAD;
        }
        if (rows[from] == null || rows[to] == null) {
            return NULL;
        }
        if (lanes[from] != lanes[to]) {
            return CAST;
        }
        if (n < 0 || i < 0 || j < 0 || (long) i + n > rows[from].length || (long) j + n > rows[to].length) {
            return INDEX;
        }
        long[] taken = rows[from].clone();
        for (int k = 0; k < n; k++) {
            rows[to][j + k] = taken[i + k];
        }
        return n;
    }
}
