/**
 * As heavy left as right: things from the market, carried home by stretches in two hands and on the shoulder.
 * The words of the document (THINGS, STRETCHES, BAGS, OFF ..) are used as it uses them.
 */
public final class EvenBags {
    public static final int BAD = -1, NOT = -2, FULL = -3, NONE = -4, NULL = -11, CAST = -12, INDEX = -13, SIZE = -14;

    private static final int MOST_THINGS = 10, MOST_STRETCHES = 5, MOST_LAWS = 8, MOST_BARS = 6;
    private static final int BAG_COUNT = 3, LEFT = 0, RIGHT = 1;
    private static final int MOST_LETTERS = 80, SHEET_COUNT = 4, MOST_ITEMS = 16, PLACES = 8;
    private static final int STALL_SHIFT = 50, BAR_LENGTH = 60, FAULT = -20, BELOW_ALL = -10000000;

    private final Market now = new Market();
    private final Market kept = new Market();
    private final Market draft = new Market();
    private final Tape tape = new Tape();
    private final Best evenestOfAll = new Best(now);
    private final Moves moves = new Moves(now);
    private final Pulls pulls = new Pulls(now);
    private final Errand errand = new Errand(now);
    private final Guests guests = new Guests(now);
    private final Sheet[] sheets = {new Sheet(), new Sheet(), new Sheet(), new Sheet()};
    private final int[] perYard = new int[MOST_STRETCHES];
    private boolean hasImage = false;

    public EvenBags() {
    }

    // ---- 1 things, ways, laws

    public int thing(int kind, int weight) {
        if (!within(kind, 0, 3) || !within(weight, 1, 99)) {
            return BAD;
        }
        return now.things < MOST_THINGS ? now.addThing(kind, weight, MOST_STRETCHES) : FULL;
    }

    public int told(int thing, int what) {
        if (!isThing(thing)) {
            return BAD;
        }
        switch (what) {
            case 0: return now.kind[thing];
            case 1: return now.weight[thing];
            case 2: return now.stop[thing];
            case 3: return now.stall[thing] + STALL_SHIFT;
            case 4: return now.packing[thing];
            case 5: return now.hangs(thing) ? 1 : 0;
            default: return BAD;
        }
    }

    public int set(int thing, int what, int v) {
        if (!isThing(thing)) {
            return BAD;
        }
        switch (what) {
            case 1: return within(v, 1, 99) ? now.put(now.weight, thing, v) : BAD;
            case 2: return within(v, 0, MOST_STRETCHES) ? now.put(now.stop, thing, v) : BAD;
            case 3: return within(v, 0, 2 * STALL_SHIFT)
                ? now.put(now.stall, thing, v - STALL_SHIFT) + STALL_SHIFT : BAD;
            case 4: return isBag(v) ? now.put(now.packing, thing, v) : BAD;
            default: return BAD;
        }
    }

    public int stretch(int yards, boolean uphill) {
        if (!within(yards, 1, 99)) {
            return BAD;
        }
        return now.stretches < MOST_STRETCHES ? now.addStretch(yards, uphill ? 1 : 0) : FULL;
    }

    public int of(int stretch, int what) {
        if (!isStretch(stretch) || !within(what, 0, 1)) {
            return BAD;
        }
        return what == 0 ? now.yards[stretch] : now.uphill[stretch];
    }

    public int bag(int bag, int what, int v) {
        if (!isBag(bag) || !within(what, 0, 1) || !within(v, 0, what == 0 ? 999 : 9999)) {
            return BAD;
        }
        return now.put(what == 0 ? now.holds : now.gives, bag, v);
    }

    public int arm(int arm, int v) {
        if (!within(arm, LEFT, RIGHT) || !within(v, 1, 9)) {
            return BAD;
        }
        return now.put(now.strength, arm, v);
    }

    public int rule(int a, int b, int what) {
        if (!isThing(a) || !isThing(b) || a == b || !within(what, 0, 1)) {
            return BAD;
        }
        return now.laws < MOST_LAWS ? now.addLaw(a, b, what) : FULL;
    }

    public int off() {
        return now.laws > 0 ? now.dropLaw() : NONE;
    }

    public int type(int letter) {
        if (!within(letter, 32, 126)) {
            return BAD;
        }
        return tape.length < MOST_LETTERS ? tape.add(letter) : FULL;
    }

    public int market() {
        int answer = tape.read(draft);
        if (answer >= 0) {
            now.takeGoods(draft);
            now.clearLawsAndBars();
        }
        tape.length = 0;
        return answer;
    }

    public int count(int what) {
        switch (what) {
            case 0: return now.things;
            case 1: return now.stretches;
            case 2: return now.laws;
            case 3: return now.bars;
            case 4: return now.wholeWay();
            case 5: return now.strength[LEFT];
            case 6: return now.strength[RIGHT];
            default: return BAD;
        }
    }

    // ---- 2 packings

    public int load(int bag, int stretch) {
        return isBag(bag) && isStretch(stretch) ? now.bagLoad(bag, stretch) : BAD;
    }

    public int lawful() {
        return now.whyUnlawful();
    }

    public int pull(int stretch) {
        return isStretch(stretch) ? now.offOn(stretch) : BELOW_ALL + BAD;
    }

    public int uneven(int what) {
        switch (what) {
            case 0: return now.worst();
            case 1: return now.whole();
            default: return BAD;
        }
    }

    public int best(int thing) {
        if (thing != -2 && thing != -1 && !isThing(thing)) {
            return BAD;
        }
        evenestOfAll.solve();
        if (!evenestOfAll.any) {
            return NONE;
        }
        if (thing < 0) {
            return thing == -2 ? evenestOfAll.worst : evenestOfAll.whole;
        }
        return evenestOfAll.found[thing];
    }

    public int pack() {
        evenestOfAll.solve();
        if (!evenestOfAll.any) {
            return NONE;
        }
        now.packAs(evenestOfAll.found);
        return evenestOfAll.worst;
    }

    public int evenest(int stretch, int thing) {
        if (!isStretch(stretch) || (thing != -1 && !isThing(thing))) {
            return BAD;
        }
        int inRight = now.evenestSplit(stretch);
        if (thing < 0) {
            return Math.abs(now.splitOff(inRight, stretch));
        }
        return now.isInRight(inRight, thing) ? RIGHT : LEFT;
    }

    public int moved(int stretch, int limit, int thing) {
        if (!isStretch(stretch) || !within(limit, 0, 99999) || (thing != -1 && !isThing(thing))) {
            return BAD;
        }
        moves.ask(stretch, limit);
        moves.solve();
        if (!moves.any) {
            return NONE;
        }
        return thing < 0 ? moves.fewest : moves.found[thing];
    }

    public int hands(int bag, int what) {
        if (!isBag(bag) || !within(what, 0, 1)) {
            return BAD;
        }
        int left = now.strength[LEFT], both = left + now.strength[RIGHT];
        int borne = 0;
        for (int s = 0; s < now.stretches; s++) {
            int load = now.bagLoad(bag, s) * now.steepness(s);
            borne += load * now.yards[s];
            // counted so many times over, the left hand's part of it stays a whole number
            perYard[s] = load * both;
        }
        return borne == 0 ? inLowestTerms(0, 1, what) : yardOf(left * borne, what);
    }

    public int buying(int i) {
        if (i != -1 && !isThing(i)) {
            return BAD;
        }
        errand.solve();
        return i < 0 ? errand.least : errand.order[i];
    }

    public int paper(int bag, int what) {
        if (!isBag(bag) || !within(what, 0, 1)) {
            return BAD;
        }
        if (now.gives[bag] == 0) {
            return NONE;
        }
        for (int s = 0; s < now.stretches; s++) {
            perYard[s] = now.wetLoad(bag, s);
        }
        return yardOf(now.gives[bag], what);
    }

    public int pole(int a, int b, int length, int what) {
        if (!isThing(a) || !isThing(b) || a == b || !within(length, 1, 999) || !within(what, 0, 1)) {
            return BAD;
        }
        return levelAt(now.weight[a], now.weight[b], length, what);
    }

    public int bar(int first, int other) {
        if (!isEnd(first) || !isEnd(other) || first == other) {
            return BAD;
        }
        if (now.hangs(first) || now.hangs(other)) {
            return NOT;
        }
        return now.bars < MOST_BARS ? now.addBar(first, other) : FULL;
    }

    public int hung(int bar, int what) {
        if (!within(bar, 0, now.bars - 1) || !within(what, 0, 2)) {
            return BAD;
        }
        int first = now.endWeight(now.barFirst[bar]);
        int other = now.endWeight(now.barOther[bar]);
        return what == 2 ? first + other : levelAt(first, other, BAR_LENGTH, what);
    }

    public int image() {
        kept.takeAll(now);
        hasImage = true;
        return 1;
    }

    public int restore() {
        if (!hasImage) {
            return NONE;
        }
        now.takeAll(kept);
        return 1;
    }

    // ---- 3 sheets 0 .. 3: nothing (at first), or a row of a LANE: 0 bytes, 1 shorts, 2 ints, 3 longs, of 0 to 16 items

    public int tray(int sheet, int lane, int i, int limit, int what) {
        if (!within(limit, 0, 9999) || !within(what, 0, 2)) {
            return BAD;
        }
        int refusal = refusalOf(sheet, lane, i, PLACES);
        if (refusal < 0) {
            return refusal;
        }
        if (!guests.seat(sheets[sheet], i)) {
            return NOT;
        }
        switch (what) {
            case 0: return guests.tips(guests.taken, limit) ? 1 : 0;
            case 1: return guests.orders(limit);
            default: return guests.safe(limit);
        }
    }

    public int pulled(int sheet, int lane, int i, int what) {
        if (!within(what, 0, 2)) {
            return BAD;
        }
        int refusal = refusalOf(sheet, lane, i, now.stretches);
        if (refusal < 0) {
            return refusal;
        }
        for (int s = 0; s < now.stretches; s++) {
            pulls.ask(s, sheets[sheet].items[i + s]);
        }
        pulls.solve();
        if (what == 0) {
            return pulls.ways;
        }
        if (pulls.ways == 0) {
            return NONE;
        }
        return what == 1 ? pulls.firstAsDigits() : pulls.sure;
    }

    public int film(int sheet, int lane, int i) {
        int refusal = refusalOf(sheet, lane, i, now.stretches);
        if (refusal < 0) {
            return refusal;
        }
        for (int s = 0; s < now.stretches; s++) {
            sheets[sheet].write(i + s, now.offOn(s));
        }
        return now.stretches;
    }

    public int lay(int sheet, int lane, int i) {
        int refusal = refusalOf(sheet, lane, i, now.things);
        if (refusal < 0) {
            return refusal;
        }
        for (int t = 0; t < now.things; t++) {
            long bag = sheets[sheet].items[i + t];
            if (bag < 0 || bag >= BAG_COUNT) {
                return NOT;
            }
        }
        for (int t = 0; t < now.things; t++) {
            now.put(now.packing, t, (int) sheets[sheet].items[i + t]);
        }
        return now.whyUnlawful();
    }

    public int sheet(int sheet, int lane, int n) {
        if (!isSheet(sheet) || !within(lane, 0, 3) || n > MOST_ITEMS) {
            return BAD;
        }
        if (n < 0) {
            return SIZE;
        }
        sheets[sheet].renew(lane, n);
        return n;
    }

    public int drop(int sheet) {
        if (!isSheet(sheet)) {
            return BAD;
        }
        if (sheets[sheet].isMissing()) {
            return NULL;
        }
        int had = sheets[sheet].size;
        sheets[sheet].lose();
        return had;
    }

    public int item(int sheet, int lane, int i, long v) {
        int refusal = refusalOf(sheet, lane, i, 1);
        if (refusal < 0) {
            return refusal;
        }
        sheets[sheet].write(i, v);
        return 1;
    }

    public int copy(int from, int i, int to, int j, int n) {
        if (!isSheet(from) || !isSheet(to)) {
            return BAD;
        }
        Sheet source = sheets[from], target = sheets[to];
        if (source.isMissing() || target.isMissing()) {
            return NULL;
        }
        if (source.lane != target.lane) {
            return CAST;
        }
        if (!source.spans(i, n) || !target.spans(j, n)) {
            return INDEX;
        }
        System.arraycopy(source.items, i, target.items, j, n);
        return n;
    }

    // ---- what numbers are as told

    private static boolean within(int v, int least, int most) {
        return v >= least && v <= most;
    }

    private static boolean isBag(int bag) {
        return within(bag, 0, BAG_COUNT - 1);
    }

    private static boolean isSheet(int sheet) {
        return within(sheet, 0, SHEET_COUNT - 1);
    }

    private boolean isThing(int thing) {
        return within(thing, 0, now.things - 1);
    }

    private boolean isStretch(int stretch) {
        return within(stretch, 0, now.stretches - 1);
    }

    private boolean isEnd(int end) {
        return isThing(end) || within(end, MOST_THINGS, MOST_THINGS + now.bars - 1);
    }

    /** 0, if a SHEET can be taken as a row of a LANE with n items from i on. */
    private int refusalOf(int sheet, int lane, int i, int n) {
        if (!isSheet(sheet) || !within(lane, 0, 3)) {
            return BAD;
        }
        if (sheets[sheet].isMissing()) {
            return NULL;
        }
        if (sheets[sheet].lane != lane) {
            return CAST;
        }
        return sheets[sheet].spans(i, n) ? 0 : INDEX;
    }

    // ---- fractions

    /** The first YARD at which what perYard tells, added from the beginning, comes to amount (1 or more). */
    private int yardOf(int amount, int what) {
        int missing = amount;
        int behind = 0;
        for (int s = 0; s < now.stretches; s++) {
            int here = perYard[s] * now.yards[s];
            if (here >= missing) {
                return inLowestTerms(behind * perYard[s] + missing, perYard[s], what);
            }
            missing -= here;
            behind += now.yards[s];
        }
        return NONE;
    }

    private static int levelAt(int first, int other, int length, int what) {
        return inLowestTerms(other * length, first + other, what);
    }

    /** The upper (0) or the lower number (1) of a fraction of numbers from 0 and from 1 on. */
    private static int inLowestTerms(int upper, int lower, int what) {
        int divisor = lower;
        int rest = upper;
        // by Euclid both fall like Fibonacci's numbers, of which an int has fewer than 50
        for (int k = 0; k < 100 && rest > 0; k++) {
            int next = divisor % rest;
            divisor = rest;
            rest = next;
        }
        if (divisor < 1) {
            return what == 0 ? upper : lower;
        }
        return what == 0 ? upper / divisor : lower / divisor;
    }

    /** All that an IMAGE keeps, and what can be told of THE PACKING. */
    private static final class Market {
        static final int SOFT = 2, APART = 0;
        static final int[] MELTS = {0, 1, 0, 2};

        // never restored: whoever has solved something sees by it that the question may be another one now
        int changes = 0;
        int things = 0;
        final int[] kind = new int[MOST_THINGS];
        final int[] weight = new int[MOST_THINGS];
        final int[] stop = new int[MOST_THINGS];
        final int[] stall = new int[MOST_THINGS];
        final int[] packing = new int[MOST_THINGS];
        int stretches = 0;
        final int[] yards = new int[MOST_STRETCHES];
        final int[] uphill = new int[MOST_STRETCHES];
        final int[] holds = {999, 999, 999};
        final int[] gives = new int[BAG_COUNT];
        final int[] strength = {2, 3};
        int laws = 0;
        final int[] lawFirst = new int[MOST_LAWS];
        final int[] lawOther = new int[MOST_LAWS];
        final int[] lawKind = new int[MOST_LAWS];
        int bars = 0;
        final int[] barFirst = new int[MOST_BARS];
        final int[] barOther = new int[MOST_BARS];

        int addThing(int newKind, int newWeight, int newStop) {
            changes++;
            kind[things] = newKind;
            weight[things] = newWeight;
            stop[things] = newStop;
            stall[things] = 0;
            packing[things] = LEFT;
            return things++;
        }

        int addStretch(int newYards, int newUphill) {
            changes++;
            yards[stretches] = newYards;
            uphill[stretches] = newUphill;
            return stretches++;
        }

        int addLaw(int first, int other, int what) {
            changes++;
            lawFirst[laws] = first;
            lawOther[laws] = other;
            lawKind[laws] = what;
            return laws++;
        }

        int dropLaw() {
            changes++;
            laws--;
            return laws;
        }

        int addBar(int first, int other) {
            changes++;
            barFirst[bars] = first;
            barOther[bars] = other;
            return bars++;
        }

        /** Puts v into one of the rows above: what was there. */
        int put(int[] row, int i, int v) {
            changes++;
            int was = row[i];
            row[i] = v;
            return was;
        }

        void packAs(int[] row) {
            changes++;
            System.arraycopy(row, 0, packing, 0, things);
        }

        void clearGoods() {
            changes++;
            things = 0;
            stretches = 0;
        }

        void clearLawsAndBars() {
            changes++;
            laws = 0;
            bars = 0;
        }

        void takeGoods(Market other) {
            changes++;
            things = other.things;
            System.arraycopy(other.kind, 0, kind, 0, MOST_THINGS);
            System.arraycopy(other.weight, 0, weight, 0, MOST_THINGS);
            System.arraycopy(other.stop, 0, stop, 0, MOST_THINGS);
            System.arraycopy(other.stall, 0, stall, 0, MOST_THINGS);
            System.arraycopy(other.packing, 0, packing, 0, MOST_THINGS);
            stretches = other.stretches;
            System.arraycopy(other.yards, 0, yards, 0, MOST_STRETCHES);
            System.arraycopy(other.uphill, 0, uphill, 0, MOST_STRETCHES);
        }

        void takeAll(Market other) {
            takeGoods(other);
            System.arraycopy(other.holds, 0, holds, 0, BAG_COUNT);
            System.arraycopy(other.gives, 0, gives, 0, BAG_COUNT);
            System.arraycopy(other.strength, 0, strength, 0, 2);
            laws = other.laws;
            System.arraycopy(other.lawFirst, 0, lawFirst, 0, MOST_LAWS);
            System.arraycopy(other.lawOther, 0, lawOther, 0, MOST_LAWS);
            System.arraycopy(other.lawKind, 0, lawKind, 0, MOST_LAWS);
            bars = other.bars;
            System.arraycopy(other.barFirst, 0, barFirst, 0, MOST_BARS);
            System.arraycopy(other.barOther, 0, barOther, 0, MOST_BARS);
        }

        int steepness(int stretch) {
            return 1 + uphill[stretch];
        }

        int wholeWay() {
            int sum = 0;
            for (int s = 0; s < stretches; s++) {
                sum += yards[s];
            }
            return sum;
        }

        int thingLoad(int thing, int stretch) {
            if (stretch >= stop[thing]) {
                return 0;
            }
            return Math.max(0, weight[thing] - MELTS[kind[thing]] * stretch);
        }

        boolean isWet(int thing) {
            return MELTS[kind[thing]] > 0;
        }

        int bagLoad(int bag, int stretch) {
            int sum = 0;
            for (int t = 0; t < things; t++) {
                sum += packing[t] == bag ? thingLoad(t, stretch) : 0;
            }
            return sum;
        }

        int wetLoad(int bag, int stretch) {
            int sum = 0;
            for (int t = 0; t < things; t++) {
                sum += packing[t] == bag && isWet(t) ? thingLoad(t, stretch) : 0;
            }
            return sum;
        }

        int offBetween(int leftLoad, int rightLoad) {
            return leftLoad * strength[RIGHT] - rightLoad * strength[LEFT];
        }

        int offOn(int stretch) {
            return offBetween(bagLoad(LEFT, stretch), bagLoad(RIGHT, stretch));
        }

        int worst() {
            int most = 0;
            for (int s = 0; s < stretches; s++) {
                most = Math.max(most, Math.abs(offOn(s)));
            }
            return most;
        }

        int whole() {
            int sum = 0;
            for (int s = 0; s < stretches; s++) {
                sum += Math.abs(offOn(s)) * yards[s] * steepness(s);
            }
            return sum;
        }

        int whyUnlawful() {
            if (!bagsHold()) {
                return 1;
            }
            for (int t = 0; t < things; t++) {
                if (!keepsLaws(packing, t)) {
                    return 2;
                }
            }
            for (int t = 0; t < things; t++) {
                if (!liesSoftly(packing, t)) {
                    return 3;
                }
            }
            return 0;
        }

        private boolean bagsHold() {
            for (int s = 0; s < stretches; s++) {
                for (int b = 0; b < BAG_COUNT; b++) {
                    if (bagLoad(b, s) > holds[b]) {
                        return false;
                    }
                }
            }
            return true;
        }

        /** Whether the LAWS of which THING t is the later one hold: a search has a row only up to t. */
        boolean keepsLaws(int[] row, int t) {
            for (int k = 0; k < laws; k++) {
                if (Math.max(lawFirst[k], lawOther[k]) == t) {
                    boolean together = row[lawFirst[k]] == row[lawOther[k]];
                    if (together == (lawKind[k] == APART)) {
                        return false;
                    }
                }
            }
            return true;
        }

        /** Whether among THING t and those ahead of it in its BAG no SOFT one lies with a heavier one. */
        boolean liesSoftly(int[] row, int t) {
            for (int u = 0; u < t; u++) {
                if (row[u] == row[t] && (crushes(u, t) || crushes(t, u))) {
                    return false;
                }
            }
            return true;
        }

        private boolean crushes(int heavy, int soft) {
            return kind[soft] == SOFT && weight[heavy] > weight[soft];
        }

        /** EVENEST as bits, THING 0 the highest, so that rows come first as their numbers do. */
        int evenestSplit(int stretch) {
            int least = 0;
            int leastOff = Math.abs(splitOff(0, stretch));
            for (int split = 1; split < 1 << things && leastOff > 0; split++) {
                int off = Math.abs(splitOff(split, stretch));
                if (off < leastOff) {
                    least = split;
                    leastOff = off;
                }
            }
            return least;
        }

        int splitOff(int split, int stretch) {
            int left = 0;
            int right = 0;
            for (int t = 0; t < things; t++) {
                if (isInRight(split, t)) {
                    right += thingLoad(t, stretch);
                } else {
                    left += thingLoad(t, stretch);
                }
            }
            return offBetween(left, right);
        }

        boolean isInRight(int split, int thing) {
            return (split >> (things - 1 - thing) & 1) == 1;
        }

        boolean hangs(int end) {
            for (int b = 0; b < bars; b++) {
                if (barFirst[b] == end || barOther[b] == end) {
                    return true;
                }
            }
            return false;
        }

        /** All WEIGHTS at an end of a BAR: of a THING, or of all that hang on a BAR. */
        int endWeight(int end) {
            int hanging = 1 << end;
            // on a BAR only those of lesser numbers hang, so each is in the set before its turn comes
            for (int b = bars - 1; b >= 0; b--) {
                if ((hanging >> (MOST_THINGS + b) & 1) == 1) {
                    hanging |= 1 << barFirst[b] | 1 << barOther[b];
                }
            }
            return weightOf(hanging);
        }

        /** All WEIGHTS of a set of THINGS; bits beyond them do not matter. */
        int weightOf(int set) {
            int sum = 0;
            for (int t = 0; t < things; t++) {
                sum += (set >> t & 1) == 1 ? weight[t] : 0;
            }
            return sum;
        }
    }

    /** Goes through all LAWFUL PACKINGS, the first as a row first, but for those that can't matter. */
    private abstract static class Search {
        final Market market;
        final int[] row = new int[MOST_THINGS];
        final int[] found = new int[MOST_THINGS];
        private final int[] loads = new int[BAG_COUNT * MOST_STRETCHES];
        // LOADS of the THINGS from t on together, at t * MOST_STRETCHES + stretch
        private final int[] ahead = new int[(MOST_THINGS + 1) * MOST_STRETCHES];
        private int solvedAt = -1;

        Search(Market market) {
            this.market = market;
        }

        abstract void begin();

        /** Whether no PACKING that begins as the row's first t THINGS can matter; exact, if these are all. */
        abstract boolean isHopeless(int t);

        abstract void reach();

        /** The same question is often asked for one THING after another: it is answered once. */
        void solve() {
            if (solvedAt == market.changes) {
                return;
            }
            solvedAt = market.changes;
            weighAhead();
            begin();
            place(0);
        }

        void forget() {
            solvedAt = -1;
        }

        private void weighAhead() {
            for (int t = market.things - 1; t >= 0; t--) {
                for (int s = 0; s < market.stretches; s++) {
                    ahead[t * MOST_STRETCHES + s] = loadAhead(t + 1, s) + market.thingLoad(t, s);
                }
            }
        }

        private int loadAhead(int t, int stretch) {
            return t < market.things ? ahead[t * MOST_STRETCHES + stretch] : 0;
        }

        private void place(int t) {
            if (isHopeless(t)) {
                return;
            }
            if (t >= market.things) {
                reach();
                return;
            }
            for (int b = 0; b < BAG_COUNT; b++) {
                row[t] = b;
                if (market.keepsLaws(row, t) && market.liesSoftly(row, t)) {
                    shift(t, b, 1);
                    if (stillHolds(b)) {
                        place(t + 1);
                    }
                    shift(t, b, -1);
                }
            }
        }

        private void shift(int t, int bag, int sign) {
            for (int s = 0; s < market.stretches; s++) {
                loads[s * BAG_COUNT + bag] += sign * (loadAhead(t, s) - loadAhead(t + 1, s));
            }
        }

        private boolean stillHolds(int bag) {
            for (int s = 0; s < market.stretches; s++) {
                if (loads[s * BAG_COUNT + bag] > market.holds[bag]) {
                    return false;
                }
            }
            return true;
        }

        /** OFF, if all THINGS from t on were LEFT. */
        int mostOff(int t, int stretch) {
            int at = stretch * BAG_COUNT;
            return market.offBetween(loads[at + LEFT] + loadAhead(t, stretch), loads[at + RIGHT]);
        }

        /** OFF, if all THINGS from t on were RIGHT. */
        int leastOff(int t, int stretch) {
            int at = stretch * BAG_COUNT;
            return market.offBetween(loads[at + LEFT], loads[at + RIGHT] + loadAhead(t, stretch));
        }

        /** No PACKING that begins as the row's first t THINGS has less OFF, without its sign. */
        int nearestOff(int t, int stretch) {
            return Math.max(0, Math.max(leastOff(t, stretch), -mostOff(t, stretch)));
        }

        void keepRow() {
            System.arraycopy(row, 0, found, 0, market.things);
        }
    }

    private static final class Best extends Search {
        boolean any = false;
        int worst = 0;
        int whole = 0;
        private int worstSeen = 0;
        private int wholeSeen = 0;

        Best(Market market) {
            super(market);
        }

        void begin() {
            any = false;
        }

        boolean isHopeless(int t) {
            worstSeen = 0;
            wholeSeen = 0;
            for (int s = 0; s < market.stretches; s++) {
                int off = nearestOff(t, s);
                worstSeen = Math.max(worstSeen, off);
                wholeSeen += off * market.yards[s] * market.steepness(s);
            }
            return any && (worstSeen > worst || worstSeen == worst && wholeSeen >= whole);
        }

        void reach() {
            any = true;
            worst = worstSeen;
            whole = wholeSeen;
            keepRow();
        }
    }

    private static final class Moves extends Search {
        boolean any = false;
        int fewest = 0;
        private int from = 0;
        private int limit = 0;
        private int movedSeen = 0;

        Moves(Market market) {
            super(market);
        }

        void ask(int stretch, int newLimit) {
            if (from != stretch || limit != newLimit) {
                forget();
            }
            from = stretch;
            limit = newLimit;
        }

        void begin() {
            any = false;
        }

        boolean isHopeless(int t) {
            movedSeen = 0;
            for (int u = 0; u < t; u++) {
                movedSeen += row[u] == market.packing[u] ? 0 : 1;
            }
            if (any && movedSeen >= fewest) {
                return true;
            }
            for (int s = from; s < market.stretches; s++) {
                if (nearestOff(t, s) > limit) {
                    return true;
                }
            }
            return false;
        }

        void reach() {
            any = true;
            fewest = movedSeen;
            keepRow();
        }
    }

    private static final class Pulls extends Search {
        int ways = 0;
        int sure = 0;
        private final long[] told = new long[MOST_STRETCHES];

        Pulls(Market market) {
            super(market);
        }

        void ask(int stretch, long off) {
            if (told[stretch] != off) {
                forget();
            }
            told[stretch] = off;
        }

        void begin() {
            ways = 0;
            sure = 0;
        }

        boolean isHopeless(int t) {
            for (int s = 0; s < market.stretches; s++) {
                if (told[s] < leastOff(t, s) || told[s] > mostOff(t, s)) {
                    return true;
                }
            }
            return false;
        }

        void reach() {
            ways++;
            if (ways == 1) {
                keepRow();
                sure = (1 << market.things) - 1;
            }
            for (int t = 0; t < market.things; t++) {
                if (row[t] != found[t]) {
                    sure &= ~(1 << t);
                }
            }
        }

        int firstAsDigits() {
            int number = 0;
            for (int t = 0; t < market.things; t++) {
                number = number * BAG_COUNT + found[t];
            }
            return number;
        }
    }

    /** BUYING, by what is still to come: that depends on which THINGS are bought and on the last STALL alone. */
    private static final class Errand {
        // ten ways of 100 at most, with ten THINGS of 99 at most
        static final int ABOVE_ALL_COSTS = 1000000;

        int least = 0;
        final int[] order = new int[MOST_THINGS];
        private final Market market;
        // of a market of few THINGS it stays short
        private int[] toCome = new int[0];
        private int solvedAt = -1;

        Errand(Market market) {
            this.market = market;
        }

        void solve() {
            if (solvedAt == market.changes) {
                return;
            }
            solvedAt = market.changes;
            int sets = 1 << market.things;
            if (toCome.length < sets * MOST_THINGS) {
                toCome = new int[sets * MOST_THINGS];
            }
            for (int bought = sets - 1; bought > 0; bought--) {
                weigh(bought, bought == sets - 1);
            }
            goShopping();
        }

        private void weigh(int bought, boolean all) {
            int carried = market.weightOf(bought);
            for (int last = 0; last < market.things; last++) {
                if ((bought >> last & 1) == 1) {
                    toCome[at(bought, last)] = all
                        ? carried * Math.abs(market.stall[last])
                        : costBy(bought, last, carried, nextBehind(bought, last, carried));
                }
            }
        }

        private void goShopping() {
            int bought = 0;
            int carried = 0;
            int last = -1;
            least = 0;
            for (int i = 0; i < market.things; i++) {
                int next = nextBehind(bought, last, carried);
                if (i == 0) {
                    least = costBy(bought, last, carried, next);
                }
                order[i] = next;
                bought |= 1 << next;
                carried += market.weight[next];
                last = next;
            }
        }

        /** The first of the THINGS not yet bought by which the least is still to come. */
        private int nextBehind(int bought, int last, int carried) {
            int first = 0;
            int leastCost = ABOVE_ALL_COSTS;
            for (int next = 0; next < market.things; next++) {
                if ((bought >> next & 1) == 0) {
                    int cost = costBy(bought, last, carried, next);
                    if (cost < leastCost) {
                        leastCost = cost;
                        first = next;
                    }
                }
            }
            return first;
        }

        private int costBy(int bought, int last, int carried, int next) {
            int from = last < 0 ? 0 : market.stall[last];
            return carried * Math.abs(market.stall[next] - from) + toCome[at(bought | 1 << next, next)];
        }

        private static int at(int bought, int last) {
            return bought * MOST_THINGS + last;
        }
    }

    /** A TRAY; what stands on it is a set of places. */
    private static final class Guests {
        static final int[] X = {0, 2, 3, 2, 0, -2, -3, -2};
        static final int[] Y = {3, 2, 0, -2, -3, -2, 0, 2};

        int taken = 0;
        private final Market market;
        private final int[] weights = new int[PLACES];
        private final int[] ways = new int[1 << PLACES];

        Guests(Market market) {
            this.market = market;
        }

        /** False: an item is no THING, or a THING comes twice. */
        boolean seat(Sheet sheet, int from) {
            int seen = 0;
            taken = 0;
            for (int p = 0; p < PLACES; p++) {
                long thing = sheet.items[from + p];
                if (thing >= market.things) {
                    return false;
                }
                if (thing >= 0) {
                    int t = (int) thing;
                    if ((seen >> t & 1) == 1) {
                        return false;
                    }
                    seen |= 1 << t;
                    taken |= 1 << p;
                    weights[p] = market.weight[t];
                }
            }
            return true;
        }

        boolean tips(int places, int limit) {
            int x = 0;
            int y = 0;
            for (int p = 0; p < PLACES; p++) {
                if ((places >> p & 1) == 1) {
                    x += weights[p] * X[p];
                    y += weights[p] * Y[p];
                }
            }
            return Math.abs(x) > limit || Math.abs(y) > limit;
        }

        int orders(int limit) {
            ways[0] = 1;
            for (int places = 1; places <= taken; places++) {
                if ((places & ~taken) == 0) {
                    ways[places] = tips(places, limit) ? 0 : waysWithoutOne(places);
                }
            }
            return ways[taken];
        }

        private int waysWithoutOne(int places) {
            int sum = 0;
            for (int p = 0; p < PLACES; p++) {
                sum += (places >> p & 1) == 1 ? ways[places & ~(1 << p)] : 0;
            }
            return sum;
        }

        int safe(int limit) {
            int set = 0;
            for (int p = 0; p < PLACES; p++) {
                if ((taken >> p & 1) == 1 && !tips(taken & ~(1 << p), limit)) {
                    set |= 1 << p;
                }
            }
            return set;
        }
    }

    /** A row of a LANE, or nothing. Items are kept as longs that a LANE's items could be. */
    private static final class Sheet {
        static final int MISSING = -1;

        int lane = MISSING;
        int size = 0;
        final long[] items = new long[MOST_ITEMS];

        boolean isMissing() {
            return lane == MISSING;
        }

        void renew(int newLane, int n) {
            lane = newLane;
            size = n;
            for (int i = 0; i < MOST_ITEMS; i++) {
                items[i] = 0;
            }
        }

        void lose() {
            lane = MISSING;
            size = 0;
        }

        boolean spans(int i, int n) {
            return n >= 0 && i >= 0 && i <= size - n;
        }

        void write(int i, long v) {
            items[i] = lowestBits(v);
        }

        private long lowestBits(long v) {
            switch (lane) {
                case 0: return (byte) v;
                case 1: return (short) v;
                case 2: return (int) v;
                default: return v;
            }
        }
    }

    /** THE TAPE, read as a MARKET. Where reading fails, at is left at the place of the FAULT. */
    private static final class Tape {
        static final String KINDS = "pisf";

        int length = 0;
        private final char[] letters = new char[MOST_LETTERS];
        private int at = 0;

        int add(int letter) {
            letters[length] = (char) letter;
            length++;
            return length;
        }

        /** How many THINGS are in the draft then, or a FAULT. */
        int read(Market draft) {
            at = 0;
            draft.clearGoods();
            boolean fine = readThings(draft) && (!passes(';') || readStretches(draft));
            if (fine) {
                skipBlanks();
            }
            return fine && at >= length ? draft.things : FAULT - at;
        }

        private boolean readThings(Market draft) {
            boolean fine = readThing(draft);
            for (int k = 1; k < MOST_THINGS && fine && passes(','); k++) {
                fine = readThing(draft);
            }
            return fine;
        }

        private boolean readStretches(Market draft) {
            boolean fine = readStretch(draft);
            for (int k = 1; k < MOST_STRETCHES && fine && passes(','); k++) {
                fine = readStretch(draft);
            }
            return fine;
        }

        private boolean readThing(Market draft) {
            skipBlanks();
            int kind = at < length ? KINDS.indexOf(letters[at]) : -1;
            if (kind < 0) {
                return false;
            }
            at++;
            int weight = readNumber();
            if (weight == 0) {
                return false;
            }
            int stop = passes('@') ? readStop() : MOST_STRETCHES;
            if (stop < 0) {
                return false;
            }
            draft.addThing(kind, weight, stop);
            return true;
        }

        private boolean readStretch(Market draft) {
            int yards = readNumber();
            if (yards == 0) {
                return false;
            }
            draft.addStretch(yards, passes('u') ? 1 : 0);
            return true;
        }

        private int readStop() {
            skipBlanks();
            if (at >= length || letters[at] < '0' || letters[at] > '5') {
                return -1;
            }
            int stop = letters[at] - '0';
            at++;
            return stop;
        }

        /** 1 .. 99; 0: none stands here, or one that may not be. */
        private int readNumber() {
            skipBlanks();
            int first = at;
            int number = 0;
            while (at < length && letters[at] >= '0' && letters[at] <= '9') {
                // a tape full of digits would not fit into an int
                number = Math.min(100, number * 10 + letters[at] - '0');
                at++;
            }
            if (number < 1 || at - first > 2) {
                at = first;
                return 0;
            }
            return number;
        }

        private boolean passes(char letter) {
            skipBlanks();
            if (at >= length || letters[at] != letter) {
                return false;
            }
            at++;
            return true;
        }

        private void skipBlanks() {
            while (at < length && letters[at] == ' ') {
                at++;
            }
        }
    }
}
