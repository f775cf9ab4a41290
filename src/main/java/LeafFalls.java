/**
 * A tree whose leaves fall one by one: what it loses each day, who falls and when, and what is written of it.
 * The document's words (HANGS, FALLEN, LOSES, ..) are used in small letters here; README.md tells the way around.
 */
public final class LeafFalls {
    public static final int BAD = -1, FULL = -2, NONE = -3;

    private static final int NO_ROW = -9, NOTHING = -11, OUTSIDE = -12, OTHER_SORT = -13, BELOW_ZERO = -14, BY_ZERO = -15;
    private static final int FAULTY = -100;

    private static final int WIND = 0, COLD = 1, WET = 2, GALE = 3, LAWS = 4;
    private static final int LEAF = 0, RED = 1, YELLOW = 2, SCARLET = 3, GOLD = 4, EVERGREEN = 5, KINDS = 6;
    private static final int BOUGHS = 6, LEAVES = 8, MOST_HOLD = 99, MOST_SIGN = 9, MOST_SWAY = 9;
    private static final int FIRST_HOLD = 10;

    private static final int MOST_DAYS = 60, NEVER = 61, MOST_DRAWN = 30, MOST_ASKED = 20;
    private static final int HUNDRED = 100, MOST_ODDS = 8, MOST_HOPE = 99;
    private static final int NO_SIGN = 10, ANY_SIGN = -1;
    private static final int ROWS = 10, ROW_PARTS = 3;
    private static final int TAPE = 200, MOST_FED = 8;
    private static final int SHEETS = 4, SORTS = 4, ITEMS = 40, MISSING = -1;
    private static final int SHELVES = 4, HOLDS_LEAF = 0, HOLDS_ROW = 1, HOLDS_NOTHING = 2, ROW_AS = 10;
    private static final int TURNS = 0, NAMES = 1, PARTS = 2, LANDS = 3, ACTS = 4, BODIES = 30;

    private final Tree now = new Tree();
    private final Tree tried = new Tree();
    private final Tree kept = new Tree();
    private boolean hasKept;
    private final Text tape = new Text();
    private final int[] rows = new int[ROWS * ROW_PARTS];
    private int rowCount;
    private final Sheet[] sheets = new Sheet[SHEETS];
    private final Shelf[] shelves = new Shelf[SHELVES];
    private final Acts acts = new Acts();

    public LeafFalls() {
        for (int i = 0; i < SHEETS; i++) {
            sheets[i] = new Sheet();
        }
        for (int i = 0; i < SHELVES; i++) {
            shelves[i] = new Shelf();
        }
    }

    // ---- the tape

    public int feed(long eight, int n) {
        if (!isWithin(n, 1, MOST_FED)) {
            return BAD;
        }
        if (tape.length + n > TAPE) {
            return FULL;
        }
        for (int i = 0; i < n; i++) {
            tape.bytes[tape.length] = (byte) (eight >>> (8 * i));
            tape.length++;
        }
        return tape.length;
    }

    public int autumn() {
        tried.clear();
        tried.z = now.z;
        int fault = tape.readInto(tried);
        tape.length = 0;
        if (fault >= 0) {
            return FAULTY - fault;
        }
        now.become(tried);
        rowCount = 0;
        return now.count;
    }

    // ---- laws, leaves and boughs

    public int set(int law, int v) {
        if (!isWithin(law, 0, LAWS - 1) || !isWithin(v, 0, mostOfLaw(law))) {
            return BAD;
        }
        int was = now.laws[law];
        now.laws[law] = v;
        return was;
    }

    public int lawOf(int law) {
        return isWithin(law, 0, LAWS - 1) ? now.laws[law] : BAD;
    }

    public int leaf(int kind, int bough, int hold, int sign) {
        if (!isWithin(kind, 0, KINDS - 1) || !isWithin(bough, 0, BOUGHS - 1)
                || !isWithin(hold, 0, MOST_HOLD) || !isWithin(sign, 0, MOST_SIGN)) {
            return BAD;
        }
        if (now.count >= LEAVES) {
            return FULL;
        }
        now.grow(kind, bough, hold, sign);
        return now.count - 1;
    }

    public int of(int leaf, int what) {
        if (!now.has(leaf)) {
            return BAD;
        }
        switch (what) {
            case 0: return now.kinds[leaf];
            case 1: return now.boughs[leaf];
            case 2: return now.holds[leaf];
            case 3: return now.signs[leaf];
            case 4: return now.hangs(leaf) ? 1 : 0;
            case 5: return now.places[leaf];
            case 6: return now.mates(leaf);
            default: return BAD;
        }
    }

    public int does(int leaf, int what) {
        if (!now.has(leaf) || !isWithin(what, 0, 1)) {
            return BAD;
        }
        return 1000 + (what == 0 ? now.loses(leaf) : now.rank(leaf));
    }

    public int mind(int leaf, int kind, int sign) {
        if (!now.has(leaf) || !isWithin(kind, 0, KINDS - 1) || !isWithin(sign, 0, MOST_SIGN)) {
            return BAD;
        }
        int was = now.kinds[leaf];
        now.kinds[leaf] = kind;
        now.signs[leaf] = sign;
        return was;
    }

    public int hold(int leaf, int v) {
        if (!now.has(leaf) || !isWithin(v, 0, MOST_HOLD)) {
            return BAD;
        }
        int was = now.holds[leaf];
        now.holds[leaf] = v;
        return was;
    }

    public int move(int leaf, int bough) {
        if (!now.has(leaf) || !isWithin(bough, 0, BOUGHS - 1)) {
            return BAD;
        }
        int was = now.boughs[leaf];
        now.boughs[leaf] = bough;
        return was;
    }

    public int pluck(int leaf) {
        if (!now.has(leaf)) {
            return BAD;
        }
        if (!now.hangs(leaf)) {
            return NONE;
        }
        now.fell(leaf);
        return now.hanging();
    }

    public int bough(int bough, int what) {
        if (!isWithin(bough, 0, BOUGHS - 1) || !isWithin(what, 0, 1)) {
            return BAD;
        }
        return what == 0 ? now.sways[bough] : now.hangingOn(bough);
    }

    public int sway(int bough, int v) {
        if (!isWithin(bough, 0, BOUGHS - 1) || !isWithin(v, 0, MOST_SWAY)) {
            return BAD;
        }
        int was = now.sways[bough];
        now.sways[bough] = v;
        return was;
    }

    // ---- days and what is written

    public int days(int n) {
        if (!isWithin(n, 1, MOST_DAYS)) {
            return BAD;
        }
        for (int i = 0; i < n; i++) {
            now.passDay();
        }
        return now.hanging();
    }

    public int seed(int v) {
        int was = now.z;
        now.z = v;
        return was;
    }

    public int day() {
        now.passDayByDraws();
        return now.hanging();
    }

    public int lost(int n) {
        if (!isWithin(n, 1, MOST_DRAWN)) {
            return BAD;
        }
        tried.become(now);
        int plain = tried.passDay();
        int z = now.z;
        int others = 0;
        for (int i = 0; i < n; i++) {
            tried.become(now);
            tried.z = z;
            if (tried.passDayByDraws() != plain) {
                others++;
            }
            z = tried.z;
        }
        return others;
    }

    public int written(int i) {
        return isWithin(i, 0, now.fallen - 1) ? now.signWritten(i) : NONE;
    }

    public int state(int what) {
        switch (what) {
            case 0: return now.today;
            case 1: return now.hangingSet();
            case 2: return now.holdTogether();
            case 3: return now.rhymes();
            case 4: return now.spelled();
            case 5: return now.swayTogether();
            default: return BAD;
        }
    }

    // ---- what is tried

    public int falls(int leaf) {
        if (!now.has(leaf)) {
            return BAD;
        }
        tried.become(now);
        int behind = daysToFall(leaf);
        return behind == NEVER ? NONE : behind;
    }

    public int bare() {
        tried.become(now);
        for (int behind = 0; behind <= MOST_DAYS; behind++) {
            if (tried.hanging() == 0) {
                return behind;
            }
            tried.passDay();
        }
        return NONE;
    }

    public int next() {
        tried.become(now);
        for (int i = 0; i < MOST_DAYS; i++) {
            int faller = tried.passDay();
            if (faller >= 0) {
                return faller;
            }
        }
        return NONE;
    }

    public int latest() {
        tried.become(now);
        int last = NONE;
        for (int i = 0; i < MOST_DAYS; i++) {
            int faller = tried.passDay();
            if (faller >= 0) {
                last = faller;
            }
        }
        for (int i = 0; i < tried.count; i++) {
            if (tried.hangs(i)) {
                return i;
            }
        }
        return last;
    }

    public int boughFor(int leaf) {
        if (!now.has(leaf)) {
            return BAD;
        }
        if (!now.hangs(leaf)) {
            return NONE;
        }
        int best = 0;
        int longest = -1;
        for (int b = 0; b < BOUGHS; b++) {
            tried.become(now);
            tried.boughs[leaf] = b;
            int behind = daysToFall(leaf);
            if (behind > longest) {
                longest = behind;
                best = b;
            }
        }
        return best;
    }

    public int kindFor(int leaf) {
        if (!now.has(leaf)) {
            return BAD;
        }
        if (!now.hangs(leaf)) {
            return NONE;
        }
        int best = 0;
        int longest = -1;
        for (int k = 0; k < KINDS; k++) {
            tried.become(now);
            tried.kinds[leaf] = k;
            int behind = daysToFall(leaf);
            if (behind > longest) {
                longest = behind;
                best = k;
            }
        }
        return best;
    }

    public int holdFor(int leaf, int n) {
        if (!now.has(leaf) || !isWithin(n, 1, MOST_ASKED)) {
            return BAD;
        }
        if (!now.hangs(leaf)) {
            return NONE;
        }
        // more hold need not hang longer (it keeps the mates of others up), so each is tried
        for (int h = 0; h <= MOST_HOLD; h++) {
            tried.become(now);
            tried.holds[leaf] = h;
            if (hangsBehind(leaf, n)) {
                return h;
            }
        }
        return NONE;
    }

    public int tiedFor(int leaf, int n) {
        if (!now.has(leaf) || !isWithin(n, 1, MOST_ASKED)) {
            return BAD;
        }
        if (!now.hangs(leaf)) {
            return NONE;
        }
        int others = now.hangingSet() & ~(1 << leaf);
        int best = NONE;
        int fewest = LEAVES + 1;
        for (int ties = 0; ties < (1 << LEAVES); ties++) {
            if ((ties & ~others) == 0 && Integer.bitCount(ties) < fewest) {
                tried.become(now);
                tried.ties = ties;
                if (hangsBehind(leaf, n)) {
                    best = ties;
                    fewest = Integer.bitCount(ties);
                }
            }
        }
        return best;
    }

    public int fits(int sheet, int leaf, int what) {
        if (!isWithin(sheet, 0, SHEETS - 1) || !now.has(leaf) || !isWithin(what, 0, 1)) {
            return BAD;
        }
        Sheet told = sheets[sheet];
        if (told.isMissing()) {
            return NOTHING;
        }
        int fitting = 0;
        for (int h = 0; h <= MOST_HOLD; h++) {
            if (fitsWithHold(told, leaf, h)) {
                if (what == 1) {
                    return h;
                }
                fitting++;
            }
        }
        return what == 1 ? NONE : fitting;
    }

    // ---- odds of gales

    public long odds(int n, int k, int part) {
        if (!isWithin(n, 0, MOST_ODDS) || !isWithin(k, 0, n) || !isWithin(part, 0, 1)) {
            return BAD;
        }
        long gale = now.laws[GALE];
        long above = ways(n, k);
        long below = 1;
        for (int i = 0; i < n; i++) {
            above *= i < k ? gale : HUNDRED - gale;
            below *= HUNDRED;
        }
        return partOf(above, below, part);
    }

    public long hope(int n, int part) {
        if (!isWithin(n, 0, MOST_HOPE) || !isWithin(part, 0, 1)) {
            return BAD;
        }
        return partOf((long) n * now.laws[GALE], HUNDRED, part);
    }

    // ---- rows and the reader

    public int prove(int leaf, int n) {
        if (!now.has(leaf) || !isWithin(n, 1, ROWS)) {
            return BAD;
        }
        tried.become(now);
        for (int i = 0; i < n; i++) {
            tried.passDay();
            for (int what = 0; what < ROW_PARTS; what++) {
                rows[i * ROW_PARTS + what] = rowPartTried(leaf, what);
            }
        }
        rowCount = n;
        return n;
    }

    public int row(int i, int what) {
        return isRowPart(i, what) ? rows[i * ROW_PARTS + what] : NO_ROW;
    }

    public int alterRow(int i, int what, int v) {
        if (!isRowPart(i, what)) {
            return NO_ROW;
        }
        int was = rows[i * ROW_PARTS + what];
        rows[i * ROW_PARTS + what] = v;
        return was;
    }

    public int judge(int leaf) {
        if (!now.has(leaf)) {
            return BAD;
        }
        tried.become(now);
        for (int i = 0; i < rowCount; i++) {
            tried.passDay();
            for (int what = 0; what < ROW_PARTS; what++) {
                if (rows[i * ROW_PARTS + what] != rowPartTried(leaf, what)) {
                    return i + 1;
                }
            }
        }
        return 0;
    }

    // ---- sheets and shelves

    public int minds(int sheet, int i, int leaf, int n) {
        if (!isWithin(sheet, 0, SHEETS - 1) || !now.has(leaf) || !isWithin(n, 0, LEAVES) || leaf + n > now.count) {
            return BAD;
        }
        Sheet from = sheets[sheet];
        if (from.isMissing()) {
            return NOTHING;
        }
        if (from.sort != 0) {
            return OTHER_SORT;
        }
        if (!isWithin(i, 0, from.length) || n > from.length - i) {
            return OUTSIDE;
        }
        for (int j = 0; j < n; j++) {
            now.holds[leaf + j] = held((int) from.items[i + j]);
        }
        return n;
    }

    public int sheet(int sheet, int sort, int n) {
        if (!isWithin(sheet, 0, SHEETS - 1) || !isWithin(sort, MISSING, SORTS - 1)) {
            return BAD;
        }
        if (sort == MISSING) {
            sheets[sheet].sort = MISSING;
            return 1;
        }
        if (n > ITEMS) {
            return BAD;
        }
        if (n < 0) {
            return BELOW_ZERO;
        }
        sheets[sheet].begin(sort, n);
        return 1;
    }

    public int put(int sheet, int i, int v) {
        if (!isWithin(sheet, 0, SHEETS - 1)) {
            return BAD;
        }
        Sheet to = sheets[sheet];
        if (to.isMissing()) {
            return NOTHING;
        }
        if (!isWithin(i, 0, to.length - 1)) {
            return OUTSIDE;
        }
        to.items[i] = to.narrowed(v);
        return 1;
    }

    public int item(int sheet, int sort, int i) {
        if (!isWithin(sheet, 0, SHEETS - 1) || !isWithin(sort, 0, SORTS - 1)) {
            return BAD;
        }
        Sheet from = sheets[sheet];
        if (from.isMissing()) {
            return NOTHING;
        }
        if (from.sort != sort) {
            return OTHER_SORT;
        }
        if (!isWithin(i, 0, from.length - 1)) {
            return OUTSIDE;
        }
        return (int) from.items[i];
    }

    public int shelf(int shelf, int what, int n) {
        if (!isWithin(shelf, 0, SHELVES - 1)) {
            return BAD;
        }
        Shelf on = shelves[shelf];
        if (what == HOLDS_LEAF && now.has(n)) {
            on.takeLeaf(n);
        } else if (what == HOLDS_ROW && isWithin(n, 0, SHEETS - 1)) {
            on.takeRow(sheets[n]);
        } else if (what == HOLDS_NOTHING) {
            on.what = HOLDS_NOTHING;
        } else {
            return BAD;
        }
        return 1;
    }

    public int taken(int shelf, int as) {
        boolean asRow = isWithin(as, ROW_AS, ROW_AS + SORTS - 1);
        if (!isWithin(shelf, 0, SHELVES - 1) || !(asRow || isWithin(as, 0, KINDS - 1))) {
            return BAD;
        }
        Shelf on = shelves[shelf];
        if (isNothing(on)) {
            return NOTHING;
        }
        if (on.what == HOLDS_ROW) {
            return on.sort == as - ROW_AS ? on.number : OTHER_SORT;
        }
        return isUnder(now.kinds[on.number], as) ? on.number : OTHER_SORT;
    }

    // ---- acts

    public int act(int shelf, int act, int x) {
        acts.ranCount = 0;
        if (!isWithin(shelf, 0, SHELVES - 1) || !isWithin(act, 0, ACTS - 1)) {
            return 0;
        }
        Shelf on = shelves[shelf];
        if (isNothing(on) || on.what != HOLDS_LEAF) {
            return 0;
        }
        acts.kind = now.kinds[on.number];
        acts.n = on.number;
        acts.a = now.signs[on.number];
        return acts.perform(act, x);
    }

    public int trace(int i) {
        return isWithin(i, 0, acts.ranCount - 1) ? acts.ran[i] : NONE;
    }

    // ---- how many, and what is kept

    public int many(int what) {
        switch (what) {
            case 0: return now.count;
            case 1: return now.hanging();
            case 2: return now.fallen;
            case 3: return now.boughsHungOn();
            case 4: return rowCount;
            case 5: return tape.length;
            case 6: return acts.ranCount;
            default: return BAD;
        }
    }

    public int keep() {
        kept.become(now);
        hasKept = true;
        return 1;
    }

    public int again() {
        if (!hasKept) {
            return NONE;
        }
        now.become(kept);
        return now.count;
    }

    // ---- helpers

    private static boolean isWithin(int v, int least, int most) {
        return v >= least && v <= most;
    }

    private static int held(int hold) {
        return Math.max(0, Math.min(MOST_HOLD, hold));
    }

    private static int mostOfLaw(int law) {
        return law == GALE ? 99 : 9;
    }

    private static boolean isUnder(int kind, int as) {
        return kind == as || as == LEAF || kind == SCARLET && as == RED || kind == GOLD && as == YELLOW;
    }

    /** The days until one has fallen in the tried tree, which they change. */
    private int daysToFall(int leaf) {
        for (int behind = 0; behind <= MOST_DAYS; behind++) {
            if (!tried.hangs(leaf)) {
                return behind;
            }
            tried.passDay();
        }
        return NEVER;
    }

    private boolean hangsBehind(int leaf, int n) {
        for (int i = 0; i < n && tried.hangs(leaf); i++) {
            tried.passDay();
        }
        return tried.hangs(leaf);
    }

    private boolean fitsWithHold(Sheet told, int leaf, int hold) {
        tried.become(now);
        tried.holds[leaf] = hold;
        for (int i = 0; i < told.length; i++) {
            int faller = tried.passDay();
            int sign = faller < 0 ? NO_SIGN : tried.signs[faller];
            if (told.items[i] != ANY_SIGN && told.items[i] != sign) {
                return false;
            }
        }
        return true;
    }

    private int rowPartTried(int leaf, int what) {
        switch (what) {
            case 0: return tried.holds[leaf];
            case 1: return tried.hangs(leaf) ? 1 : 0;
            default: return tried.fallen;
        }
    }

    private boolean isRowPart(int i, int what) {
        return isWithin(i, 0, rowCount - 1) && isWithin(what, 0, ROW_PARTS - 1);
    }

    private boolean isNothing(Shelf on) {
        return on.what == HOLDS_NOTHING || on.what == HOLDS_LEAF && !now.has(on.number);
    }

    /** How many ways there are to choose k of n; each step divides without a rest. */
    private static long ways(int n, int k) {
        long ways = 1;
        for (int i = 1; i <= k; i++) {
            ways = ways * (n - k + i) / i;
        }
        return ways;
    }

    private static long partOf(long above, long below, int part) {
        long a = below;
        long b = above;
        // a hundred steps are more than numbers below 2 to the 63rd can need
        for (int i = 0; i < HUNDRED && b != 0; i++) {
            long rest = a % b;
            a = b;
            b = rest;
        }
        if (a <= 0) {
            return BAD;
        }
        return part == 0 ? above / a : below / a;
    }

    /** All that keep() keeps: laws, boughs, leaves, the day and z. */
    private static final class Tree {
        final int[] laws = new int[LAWS];
        final int[] sways = new int[BOUGHS];
        final int[] kinds = new int[LEAVES];
        final int[] boughs = new int[LEAVES];
        final int[] holds = new int[LEAVES];
        final int[] signs = new int[LEAVES];
        /** As the how manyth each has fallen; 0: it hangs. */
        final int[] places = new int[LEAVES];
        int count;
        int fallen;
        int today;
        int z = 1;
        /** Those that lose nothing and don't fall; only a tried tree has any. */
        int ties;

        Tree() {
            clear();
        }

        /** All as at first, but z. */
        void clear() {
            laws[WIND] = 2;
            laws[COLD] = 1;
            laws[WET] = 1;
            laws[GALE] = 20;
            for (int b = 0; b < BOUGHS; b++) {
                sways[b] = 1;
            }
            count = 0;
            fallen = 0;
            today = 0;
            ties = 0;
        }

        void become(Tree other) {
            System.arraycopy(other.laws, 0, laws, 0, LAWS);
            System.arraycopy(other.sways, 0, sways, 0, BOUGHS);
            System.arraycopy(other.kinds, 0, kinds, 0, LEAVES);
            System.arraycopy(other.boughs, 0, boughs, 0, LEAVES);
            System.arraycopy(other.holds, 0, holds, 0, LEAVES);
            System.arraycopy(other.signs, 0, signs, 0, LEAVES);
            System.arraycopy(other.places, 0, places, 0, LEAVES);
            count = other.count;
            fallen = other.fallen;
            today = other.today;
            z = other.z;
            ties = 0;
        }

        void grow(int kind, int bough, int hold, int sign) {
            if (count >= LEAVES) {
                return;
            }
            kinds[count] = kind;
            boughs[count] = bough;
            holds[count] = hold;
            signs[count] = sign;
            places[count] = 0;
            count++;
        }

        boolean has(int leaf) {
            return leaf >= 0 && leaf < count;
        }

        boolean hangs(int leaf) {
            return places[leaf] == 0;
        }

        int hanging() {
            return count - fallen;
        }

        int hangingSet() {
            int set = 0;
            for (int i = 0; i < count; i++) {
                if (hangs(i)) {
                    set |= 1 << i;
                }
            }
            return set;
        }

        int hangingOn(int bough) {
            int set = 0;
            for (int i = 0; i < count; i++) {
                if (hangs(i) && boughs[i] == bough) {
                    set |= 1 << i;
                }
            }
            return set;
        }

        int boughsHungOn() {
            int hungOn = 0;
            for (int b = 0; b < BOUGHS; b++) {
                if (hangingOn(b) != 0) {
                    hungOn++;
                }
            }
            return hungOn;
        }

        int mates(int leaf) {
            return Integer.bitCount(hangingOn(boughs[leaf]) & ~(1 << leaf));
        }

        int loses(int leaf) {
            int plain = 1 + laws[WIND] + sways[boughs[leaf]];
            switch (kinds[leaf]) {
                case RED: return plain + laws[COLD];
                case SCARLET: return 2 * (plain + laws[COLD]);
                case YELLOW: return plain - mates(leaf);
                case GOLD: return plain - mates(leaf) + (today % 2 == 0 ? laws[WET] : 0);
                case EVERGREEN: return today % 5 == 0 ? plain : 0;
                default: return plain;
            }
        }

        int rank(int leaf) {
            int sign = signs[leaf];
            switch (kinds[leaf]) {
                case RED: return sign + 3;
                case SCARLET: return sign + 3 + boughs[leaf];
                case YELLOW: return 10 - sign;
                case GOLD: return 2 * (10 - sign);
                case EVERGREEN: return -sign;
                default: return sign;
            }
        }

        /** The one that falls, or -1. */
        int passDay() {
            // what one loses depends on no hold and on nobody's fall of this day, so one round does
            for (int i = 0; i < count; i++) {
                if (hangs(i) && !isTied(i)) {
                    holds[i] = held(holds[i] - loses(i));
                }
            }
            int faller = faller();
            if (faller >= 0) {
                fell(faller);
            }
            today++;
            return faller;
        }

        private int faller() {
            int faller = -1;
            for (int i = 0; i < count; i++) {
                if (hangs(i) && holds[i] == 0 && !isTied(i) && (faller < 0 || rank(i) > rank(faller))) {
                    faller = i;
                }
            }
            return faller;
        }

        private boolean isTied(int leaf) {
            return (ties >> leaf & 1) != 0;
        }

        void fell(int leaf) {
            fallen++;
            places[leaf] = fallen;
        }

        /** The one that falls, or -1. */
        int passDayByDraws() {
            if (count > 0) {
                int blown = drawn() % count;
                if (drawn() % HUNDRED < laws[GALE]) {
                    holds[blown] /= 3;
                }
            }
            return passDay();
        }

        private int drawn() {
            z = z * 1103515245 + 12345;
            return z >>> 16;
        }

        int signWritten(int i) {
            for (int leaf = 0; leaf < count; leaf++) {
                if (places[leaf] == i + 1) {
                    return signs[leaf];
                }
            }
            return NONE;
        }

        int rhymes() {
            int rhymes = 0;
            for (int i = 1; i < fallen; i++) {
                if (signWritten(i) == signWritten(i - 1)) {
                    rhymes++;
                }
            }
            return rhymes;
        }

        int spelled() {
            int spelled = 0;
            for (int i = 0; i < fallen; i++) {
                spelled = spelled * 10 + signWritten(i);
            }
            return spelled;
        }

        int holdTogether() {
            int together = 0;
            for (int i = 0; i < count; i++) {
                if (hangs(i)) {
                    together += holds[i];
                }
            }
            return together;
        }

        int swayTogether() {
            int together = 0;
            for (int b = 0; b < BOUGHS; b++) {
                together += sways[b];
            }
            return together;
        }
    }

    /** The tape, and the reader of its text. */
    private static final class Text {
        private static final int END = 0, NAME = 1, NUMBER = 2, OTHER = 3;
        private static final int MOST_DIGITS = 3;

        final byte[] bytes = new byte[TAPE];
        int length;
        /** The word under the reader: its sort, its first byte, and the first behind it. */
        private int sort;
        private int start;
        private int end;
        /** Where the first fault is; -1: none yet. */
        private int fault;

        /** Reads all into a tree that is as at first: the fault, or -1. */
        int readInto(Tree tree) {
            end = 0;
            fault = -1;
            step();
            for (int i = 0; i < TAPE && sort != END && fault < 0; i++) {
                int law = lawNamed();
                int kind = kindNamed();
                if (law >= 0) {
                    readLaw(tree, law);
                } else if (isName("sway")) {
                    readSway(tree);
                } else if (kind >= 0 && tree.count < LEAVES) {
                    readLeaf(tree, kind);
                } else {
                    fault = start;
                }
            }
            return fault;
        }

        private void readLaw(Tree tree, int law) {
            step();
            int v = number(mostOfLaw(law));
            if (v >= 0 && passSemicolon()) {
                tree.laws[law] = v;
            }
        }

        private void readSway(Tree tree) {
            step();
            int bough = number(BOUGHS - 1);
            if (bough < 0 || !passName("is")) {
                return;
            }
            int v = number(MOST_SWAY);
            if (v >= 0 && passSemicolon()) {
                tree.sways[bough] = v;
            }
        }

        private void readLeaf(Tree tree, int kind) {
            step();
            if (!passName("on")) {
                return;
            }
            int bough = number(BOUGHS - 1);
            if (bough < 0) {
                return;
            }
            int hold = numberNamed("hold", MOST_HOLD, FIRST_HOLD);
            if (hold < 0) {
                return;
            }
            int sign = numberNamed("sign", MOST_SIGN, 0);
            if (sign >= 0 && passSemicolon()) {
                tree.grow(kind, bough, hold, sign);
            }
        }

        /** The number behind a name, or what goes without it; -1: a fault. */
        private int numberNamed(String name, int most, int without) {
            if (!isName(name)) {
                return without;
            }
            step();
            return number(most);
        }

        private int number(int most) {
            int v = sort == NUMBER && end - start <= MOST_DIGITS ? value() : most + 1;
            if (v > most) {
                fault = start;
                return -1;
            }
            step();
            return v;
        }

        private int value() {
            int v = 0;
            for (int i = start; i < end && i < TAPE; i++) {
                v = v * 10 + bytes[i] - '0';
            }
            return v;
        }

        private boolean passName(String name) {
            boolean right = isName(name);
            if (right) {
                step();
            } else {
                fault = start;
            }
            return right;
        }

        private boolean passSemicolon() {
            boolean right = sort == OTHER && start < TAPE && bytes[start] == ';';
            if (right) {
                step();
            } else {
                fault = start;
            }
            return right;
        }

        private boolean isName(String name) {
            if (sort != NAME || end - start != name.length() || end > TAPE) {
                return false;
            }
            for (int i = 0; i < name.length(); i++) {
                if (bytes[start + i] != name.charAt(i)) {
                    return false;
                }
            }
            return true;
        }

        private int lawNamed() {
            return isName("wind") ? WIND : isName("cold") ? COLD : isName("wet") ? WET : isName("gale") ? GALE : -1;
        }

        private int kindNamed() {
            for (int kind = 0; kind < KINDS; kind++) {
                if (isName(kindName(kind))) {
                    return kind;
                }
            }
            return -1;
        }

        private static String kindName(int kind) {
            switch (kind) {
                case RED: return "red";
                case YELLOW: return "yellow";
                case SCARLET: return "scarlet";
                case GOLD: return "gold";
                case EVERGREEN: return "evergreen";
                default: return "leaf";
            }
        }

        /** Goes on to the word that comes next. */
        private void step() {
            start = end;
            while (start < length && bytes[start] == ' ') {
                start++;
            }
            end = start;
            sort = sortAt(start);
            if (sort == END) {
                return;
            }
            end++;
            while (sort != OTHER && end < length && sortAt(end) == sort) {
                end++;
            }
        }

        private int sortAt(int i) {
            if (i < 0 || i >= length || i >= TAPE) {
                return END;
            }
            byte b = bytes[i];
            return b >= 'a' && b <= 'z' ? NAME : b >= '0' && b <= '9' ? NUMBER : OTHER;
        }
    }

    /** A row of numbers of one sort, or none. */
    private static final class Sheet {
        final long[] items = new long[ITEMS];
        int sort = MISSING;
        int length;

        boolean isMissing() {
            return sort == MISSING;
        }

        void begin(int newSort, int n) {
            sort = newSort;
            length = n;
            for (int i = 0; i < ITEMS; i++) {
                items[i] = 0;
            }
        }

        long narrowed(int v) {
            return sort == 0 ? (byte) v : sort == 1 ? (short) v : v;
        }
    }

    /** What a shelf holds: a leaf by its number, a row as it was when it was put there, or nothing. */
    private static final class Shelf {
        int what = HOLDS_NOTHING;
        /** The number of the leaf, or how many items the row has. */
        int number;
        int sort;

        void takeLeaf(int leaf) {
            what = HOLDS_LEAF;
            number = leaf;
        }

        void takeRow(Sheet from) {
            what = from.isMissing() ? HOLDS_NOTHING : HOLDS_ROW;
            number = from.length;
            sort = from.sort;
        }
    }

    /** One thing, its acts, and their trace. A kind's body runs around the body above it: it begins first and ends last. */
    private static final class Acts {
        int kind;
        int n;
        int a;
        final int[] ran = new int[BODIES];
        int ranCount;
        /** Something was parted by 0: then nothing begins any more. */
        private boolean parted;

        int perform(int act, int x) {
            parted = false;
            int answer;
            switch (act) {
                case TURNS: answer = turns(x); break;
                case NAMES: answer = names(x); break;
                case PARTS: answer = parts(x); break;
                case LANDS: answer = lands(x); break;
                default: answer = 0;
            }
            return parted ? BY_ZERO : answer;
        }

        private int turns(int x) {
            began(40, kind == GOLD);
            began(30, isUnder(kind, YELLOW));
            began(51, kind == SCARLET);
            began(10, true);
            int v = x * 2 + n * 5;
            if (isUnder(kind, YELLOW)) {
                v ^= 1;
            }
            if (kind == GOLD) {
                v *= 2;
            }
            return kind == SCARLET ? v + a : v;
        }

        private int names(int x) {
            began(41, kind == GOLD);
            began(20, isUnder(kind, RED));
            began(11, true);
            int v = turns(x) - a;
            if (isUnder(kind, RED)) {
                v += 7;
            }
            return kind == GOLD ? v - turns(a) : v;
        }

        private int parts(int x) {
            began(50, kind == SCARLET);
            began(61, kind == EVERGREEN);
            began(12, true);
            int by = a - n;
            if (by == 0) {
                parted = true;
                return 0;
            }
            int v = (kind == SCARLET ? x + 3 : x) / by;
            if (kind == EVERGREEN) {
                return v + turns(n);
            }
            return kind == SCARLET ? 0 - v : v;
        }

        private int lands(int x) {
            began(31, isUnder(kind, YELLOW));
            began(60, kind == EVERGREEN);
            began(13, true);
            int v = names(x) ^ 20;
            if (isUnder(kind, YELLOW)) {
                return v - parts(n);
            }
            return kind == EVERGREEN ? v ^ x : v;
        }

        private void began(int body, boolean isItsOwn) {
            if (isItsOwn && ranCount < BODIES) {
                ran[ranCount] = body;
                ranCount++;
            }
        }
    }
}
