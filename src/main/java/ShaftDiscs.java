/**
 * Discs on a shaft: what is told of them, and how many of the speeds at which they swing are below
 * a mark. Everything that a call needs is made with the object, so that no call makes anything.
 */
public final class ShaftDiscs {
    public static final int NONE = -1000000, BAD = -1000001, STATE = -1000002, FULL = -1000003;

    private static final int FIRST_FINDING = -1000010;
    private static final int FIRST_FAULT = -1000100;
    private static final int FOUND_NULL = 1, FOUND_PLACE = 2, FOUND_KIND = 3;
    private static final int FOUND_SIZE = 4, FOUND_STORE = 5, FOUND_OVER = 6;
    private static final int OVER = FIRST_FINDING - FOUND_OVER;

    private static final int ROWS = 8, MOST_ITEMS = 40, MISSING = -1;
    private static final int BYTES = 0, SHORTS = 1, INTS = 2;

    private static final int MOST_BYTES = 80, MOST_DISCS = 6, FEWEST_DISCS = 2, MOST_MARK = 200;
    private static final int IMAGES = 2, MOST_ACTS = 24, MOST_TRACED = 16;

    private static final int PLAIN = 1, GEARED = 2, WHEEL = 3, TIED = 4, SLIPPING = 5, KINDS = 6;
    private static final int[] KIND_ABOVE = {-1, 0, PLAIN, PLAIN, 0, TIED};

    /** What is told of a disc, by its row; an act that changes it bears the same number. */
    private static final int J = 0, K = 1, N = 2, KIND = 3, TOLD = 4;
    private static final int MARK = 4, PLACES = 5;
    private static final int ALL = -1;
    private static final int[] LEAST_TOLD = {1, 0, 0, 1};
    private static final int[] MOST_TOLD = {5, 40, 9, 5};

    private static final int ASK_SIZE = 0, ASK_MARK = 1;
    private static final int[] SIZE_BODY = {10, 11, 12, 11, 13, 14};
    private static final int[] MARK_BODY = {20, 21, 24, 22, 23, 23};
    private static final int DEEPEST_BODY = 12;

    private static final long LEAST_LONG = 1L << 63;

    private final int[] lanes = new int[ROWS];
    private final int[] sizes = new int[ROWS];
    private final int[][] items = new int[ROWS][MOST_ITEMS];
    private final Reader reader = new Reader();
    private final Shaft shaft = new Shaft();
    private final Shaft tried = new Shaft();
    private final Shaft firstImage = new Shaft();
    private final Shaft secondImage = new Shaft();
    private final Acts acts = new Acts();
    private final Speeds speeds = new Speeds();
    private final int[] traced = new int[MOST_TRACED];
    private int tracedCount = 0;
    private int latestFault = 0;
    private int finding = 0;

    public ShaftDiscs() {
        for (int row = 0; row < ROWS; row++) {
            sizes[row] = MISSING;
        }
    }

    // ---- rows

    public int row(int row, int lane, int n) {
        if (!isRow(row) || lane < BYTES || lane > INTS || n > MOST_ITEMS) {
            return BAD;
        }
        if (n < 0) {
            return found(FOUND_SIZE);
        }
        lanes[row] = lane;
        sizes[row] = n;
        for (int i = 0; i < MOST_ITEMS; i++) {
            items[row][i] = 0;
        }
        return clean(n);
    }

    public int set(int row, int i, int v) {
        if (!isRow(row)) {
            return BAD;
        }
        if (isMissing(row)) {
            return found(FOUND_NULL);
        }
        if (!isWithin(row, i, 1)) {
            return found(FOUND_PLACE);
        }
        items[row][i] = narrowed(lanes[row], v);
        return clean(items[row][i]);
    }

    public int copy(int a, int i, int b, int j, int n) {
        if (!isRow(a) || !isRow(b)) {
            return BAD;
        }
        if (isMissing(a) || isMissing(b)) {
            return found(FOUND_NULL);
        }
        if (lanes[a] != lanes[b]) {
            return found(FOUND_STORE);
        }
        if (!isWithin(a, i, n) || !isWithin(b, j, n)) {
            return found(FOUND_PLACE);
        }
        System.arraycopy(items[a], i, items[b], j, n);
        return clean(n);
    }

    public int drop(int row) {
        if (!isRow(row)) {
            return BAD;
        }
        if (isMissing(row)) {
            return found(FOUND_NULL);
        }
        int had = sizes[row];
        sizes[row] = MISSING;
        return clean(had);
    }

    private static boolean isRow(int row) {
        return row >= 0 && row < ROWS;
    }

    private boolean isMissing(int row) {
        return sizes[row] == MISSING;
    }

    private boolean isWithin(int row, int from, int n) {
        // the subtraction cannot wrap around, where from + n could
        return from >= 0 && n >= 0 && n <= sizes[row] && from <= sizes[row] - n;
    }

    private static int narrowed(int lane, int v) {
        if (lane == BYTES) {
            return (byte) v;
        }
        return lane == SHORTS ? (short) v : v;
    }

    // ---- what is told

    public int feed(int letter) {
        if (letter < 0 || letter > 255) {
            return BAD;
        }
        return reader.takes(letter) ? reader.size : FULL;
    }

    public int shaft() {
        // read aside, since a fault must leave the shaft that stands as it is
        boolean sound = reader.reads(tried);
        reader.size = 0;
        if (!sound) {
            latestFault = reader.fault;
            return FIRST_FAULT - reader.faultPlace;
        }
        shaft.takeFrom(tried);
        acts.forgetAll();
        return shaft.discs;
    }

    public int fault() {
        return latestFault;
    }

    public int undo() {
        return acts.takeBack(shaft) ? acts.size : STATE;
    }

    // ---- what is done

    public int change(int disc, int which, int v) {
        if (!shaft.has(disc) || which < J || which > N) {
            return BAD;
        }
        if (v < LEAST_TOLD[which] || v > MOST_TOLD[which]) {
            return BAD;
        }
        return put(disc, which, v);
    }

    public int become(int disc, int kind) {
        if (!shaft.has(disc) || kind < PLAIN || kind > SLIPPING) {
            return BAD;
        }
        if (shaft.told[KIND][disc] == kind) {
            return STATE;
        }
        return put(disc, KIND, kind);
    }

    public int mark(int v) {
        if (shaft.discs == 0) {
            return STATE;
        }
        if (!isMark(v)) {
            return BAD;
        }
        int was = shaft.mark;
        acts.keep(MARK, 0, was);
        shaft.mark = v;
        return was;
    }

    public int swap(int a, int b) {
        if (!shaft.has(a) || !shaft.has(b)) {
            return BAD;
        }
        if (a == b) {
            return STATE;
        }
        acts.keep(PLACES, a, b);
        shaft.exchange(a, b);
        return Math.abs(a - b) + 1;
    }

    public int disc(int disc, int what) {
        if (!shaft.has(disc)) {
            return BAD;
        }
        switch (what) {
            case 0: return shaft.told[J][disc];
            case 1: return shaft.told[K][disc];
            case 2: return shaft.told[N][disc];
            case 3: return shaft.ratioOf(disc);
            case 4: return shaft.weightOf(disc);
            case 5: return shaft.springOf(disc);
            case 6: return shaft.tieOf(disc);
            default: return BAD;
        }
    }

    private int put(int disc, int which, int v) {
        int was = shaft.told[which][disc];
        acts.keep(which, disc, was);
        shaft.told[which][disc] = v;
        return was;
    }

    private static boolean isMark(int m) {
        return m >= 0 && m <= MOST_MARK;
    }

    // ---- speeds

    public long determinant(int i, int m) {
        if (shaft.discs == 0) {
            return STATE;
        }
        if (i < 0 || i > shaft.discs || !isMark(m)) {
            return BAD;
        }
        speeds.measure(shaft);
        if (!speeds.reaches(i, m)) {
            return found(FOUND_OVER);
        }
        finding = 0;
        return speeds.determinants[i];
    }

    public int below(int m) {
        if (shaft.discs == 0) {
            return STATE;
        }
        if (!isMark(m)) {
            return BAD;
        }
        speeds.measure(shaft);
        return answered(speeds.belowAt(m));
    }

    public int box(int k) {
        if (!shaft.has(k)) {
            return BAD;
        }
        speeds.measure(shaft);
        return answered(speeds.boxOf(k));
    }

    public int widest(int what) {
        if (shaft.discs == 0) {
            return STATE;
        }
        if (what < 0 || what > 1) {
            return BAD;
        }
        speeds.measure(shaft);
        if (!speeds.boxesAll()) {
            return found(FOUND_OVER);
        }
        int which = speeds.widestGap();
        if (which == NONE || what == 0) {
            return clean(which);
        }
        return clean(speeds.gapAt(which));
    }

    public int clear(int m, int t) {
        if (shaft.discs == 0) {
            return STATE;
        }
        if (!isMark(m) || t < 0 || t > 9) {
            return BAD;
        }
        speeds.measure(shaft);
        if (!speeds.boxesAll()) {
            return found(FOUND_OVER);
        }
        for (int at = m; at <= MOST_MARK; at++) {
            if (speeds.isClearBy(at, t)) {
                return clean(at);
            }
        }
        return clean(NONE);
    }

    public int stiffer(int disc, int v) {
        if (!shaft.has(disc) || disc == shaft.discs - 1 || v < 0 || v > MOST_DISCS) {
            return BAD;
        }
        tried.takeFrom(shaft);
        for (int more = 0; more <= 60; more++) {
            tried.told[K][disc] = shaft.told[K][disc] + more;
            int many = belowMarkTried();
            if (many == OVER) {
                return found(FOUND_OVER);
            }
            if (many <= v) {
                return clean(more);
            }
        }
        return clean(NONE);
    }

    public int sets(int v, int what) {
        if (shaft.discs == 0) {
            return STATE;
        }
        if (v < 0 || v > 99 || what < 0 || what > 2) {
            return BAD;
        }
        int many = 0;
        int every = (1 << shaft.discs) - 1;
        int inAll = every;
        int inAny = 0;
        for (int some = 0; some <= every; some++) {
            if (shaft.sumOf(J, some) == v) {
                many++;
                inAll &= some;
                inAny |= some;
            }
        }
        if (what == 0) {
            return many;
        }
        if (what == 2) {
            return inAny;
        }
        return many == 0 ? 0 : inAll;
    }

    public int share(int disc, int n) {
        if (!shaft.has(disc) || n < 0 || n > 999) {
            return BAD;
        }
        int all = shaft.sumOf(K, ALL);
        if (all == 0 || shaft.told[K][disc] == 0) {
            return 0;
        }
        int left = n;
        int stiffAhead = 0;
        for (int i = 0; i < shaft.discs; i++) {
            left -= n * shaft.told[K][i] / all;
            if (i < disc && shaft.told[K][i] != 0) {
                stiffAhead++;
            }
        }
        int one = stiffAhead < left ? 1 : 0;
        return n * shaft.told[K][disc] / all + one;
    }

    public int byTurns(int n) {
        if (shaft.discs == 0) {
            return STATE;
        }
        if (n < 0 || n > 3) {
            return BAD;
        }
        tried.takeFrom(shaft);
        return turned(n, true);
    }

    public int who(int disc, int which, int row, int i, int n) {
        if (!shaft.has(disc) || which < 0 || which > 3) {
            return BAD;
        }
        if (!isRow(row) || n < 1 || n > shaft.discs) {
            return BAD;
        }
        if (isMissing(row)) {
            return found(FOUND_NULL);
        }
        if (!isWithin(row, i, n)) {
            return found(FOUND_PLACE);
        }
        if (which == 0) {
            return clean(bitsThatFit(disc, KIND, row, i, n));
        }
        if (which == 1) {
            return clean(bitsThatFit(disc, J, row, i, n));
        }
        return clean(springsThatFit(disc, which == 3, row, i, n));
    }

    public long broken(int v, int p, int what) {
        if (shaft.discs == 0) {
            return STATE;
        }
        if (v < 0 || v > MOST_DISCS || p < 0 || p > 10 || what < 0 || what > 1) {
            return BAD;
        }
        long above = 0;
        long all = 1;
        int springs = shaft.discs - 1;
        for (int i = 0; i < springs; i++) {
            all *= 10;
        }
        tried.takeFrom(shaft);
        for (int gone = 0; gone < 1 << springs; gone++) {
            above += casesOf(gone, v, p);
        }
        long common = commonDivisor(all, above);
        return what == 0 ? above / common : all / common;
    }

    public int drawn(int n, int seed, int what) {
        if (shaft.discs == 0) {
            return STATE;
        }
        if (n < 0 || n > 40 || seed < 1 || seed > 999999 || what < 0 || what > 1) {
            return BAD;
        }
        tried.takeFrom(shaft);
        long x = seed;
        int together = 0;
        int overs = 0;
        for (int time = 0; time < n; time++) {
            x = x * 16807 % 2147483647;
            drawOne(x);
            int many = belowMarkTried();
            if (many == OVER) {
                overs++;
            } else {
                together += many;
            }
        }
        return what == 0 ? together : overs;
    }

    public int image(int k) {
        if (!isImage(k)) {
            return BAD;
        }
        if (shaft.discs == 0) {
            return STATE;
        }
        imageAt(k).takeFrom(shaft);
        return 1;
    }

    public int restore(int k) {
        if (!isImage(k)) {
            return BAD;
        }
        if (imageAt(k).discs == 0) {
            return STATE;
        }
        shaft.takeFrom(imageAt(k));
        acts.forgetAll();
        return 1;
    }

    private int belowMarkTried() {
        speeds.measure(tried);
        return speeds.belowAt(tried.mark);
    }

    private int turned(int left, boolean stiffens) {
        if (left <= 0) {
            int many = belowMarkTried();
            return many == OVER ? tried.discs : many;
        }
        int which = stiffens ? K : J;
        int more = stiffens ? 5 : 1;
        int best = stiffens ? MOST_DISCS : 0;
        for (int disc = 0; disc < tried.discs; disc++) {
            tried.told[which][disc] += more;
            int got = turned(left - 1, !stiffens);
            tried.told[which][disc] -= more;
            best = stiffens ? Math.min(best, got) : Math.max(best, got);
        }
        return best;
    }

    private int bitsThatFit(int disc, int which, int row, int i, int n) {
        int bits = 0;
        tried.takeFrom(shaft);
        for (int v = LEAST_TOLD[which]; v <= MOST_TOLD[which]; v++) {
            tried.told[which][disc] = v;
            if (triedBoxesAre(row, i, n)) {
                bits |= 1 << v;
            }
        }
        return bits;
    }

    private int springsThatFit(int disc, boolean least, int row, int i, int n) {
        int many = 0;
        tried.takeFrom(shaft);
        for (int v = LEAST_TOLD[K]; v <= MOST_TOLD[K]; v++) {
            tried.told[K][disc] = v;
            if (triedBoxesAre(row, i, n)) {
                if (least) {
                    return v;
                }
                many++;
            }
        }
        return least ? NONE : many;
    }

    private boolean triedBoxesAre(int row, int from, int n) {
        speeds.measure(tried);
        for (int k = 0; k < n; k++) {
            int box = speeds.boxOf(k);
            if (box == OVER) {
                return false;
            }
            int seen = box == NONE ? -1 : box;
            if (seen != items[row][from + k]) {
                return false;
            }
        }
        return true;
    }

    private long casesOf(int gone, int v, int p) {
        long cases = 1;
        for (int i = 0; i < shaft.discs - 1; i++) {
            boolean breaks = (gone >> i & 1) == 1;
            tried.told[K][i] = breaks ? 0 : shaft.told[K][i];
            cases *= breaks ? p : 10 - p;
        }
        return belowMarkTried() == v ? cases : 0;
    }

    private static long commonDivisor(long a, long b) {
        long more = a;
        long less = b;
        // the rest at least halves every second time, so that 200 times are more than a long needs
        for (int time = 0; time < 200 && less != 0; time++) {
            long rest = more % less;
            more = less;
            less = rest;
        }
        // never 0, since it divides
        return more == 0 ? 1 : more;
    }

    private void drawOne(long x) {
        if (tried.discs == 0) {
            return;
        }
        int disc = (int) (x % tried.discs);
        if (!tried.has(disc)) {
            return;
        }
        if (x % 3 == 0) {
            tried.told[K][disc] = (int) (x / 16 % 41);
        } else {
            tried.told[J][disc] = (int) (x / 256 % 5) + 1;
        }
    }

    private static boolean isImage(int k) {
        return k >= 0 && k < IMAGES;
    }

    private Shaft imageAt(int k) {
        return k == 0 ? firstImage : secondImage;
    }

    // ---- asked

    public int kind(int one) {
        return shaft.has(one) ? shaft.told[KIND][one] : BAD;
    }

    public int as(int one, int kind) {
        if (!shaft.has(one) || kind < 0 || kind >= KINDS) {
            return BAD;
        }
        return isOfKind(shaft.told[KIND][one], kind) ? clean(one) : found(FOUND_KIND);
    }

    public int ask(int one, int what) {
        if (!shaft.has(one) || what < ASK_SIZE || what > ASK_MARK) {
            return BAD;
        }
        tracedCount = 0;
        return asked(one, what, 0);
    }

    public int trace(int i) {
        return i >= 0 && i < tracedCount ? traced[i] : NONE;
    }

    public int count(int what) {
        switch (what) {
            case 0: return rowsThatStand();
            case 1: return shaft.discs;
            case 2: return shaft.mark;
            case 3: return shaft.sumOf(J, ALL);
            case 4: return shaft.sumOf(K, ALL);
            case 5: return acts.size;
            case 6: return reader.size;
            default: return BAD;
        }
    }

    public int status() {
        return finding;
    }

    private static boolean isOfKind(int kind, int wanted) {
        int at = kind;
        for (int step = 0; step < KINDS && at >= 0 && at < KINDS; step++) {
            if (at == wanted) {
                return true;
            }
            at = KIND_ABOVE[at];
        }
        return false;
    }

    private int asked(int one, int what, int depth) {
        int kind = shaft.told[KIND][one];
        if (kind < 0 || kind >= KINDS) {
            return 0;
        }
        return answerOf(what == ASK_SIZE ? SIZE_BODY[kind] : MARK_BODY[kind], one, depth);
    }

    private int answerOf(int body, int one, int depth) {
        if (depth > DEEPEST_BODY) {
            return 0;
        }
        leaveTrace(body);
        int next = depth + 1;
        switch (body) {
            case 10: return shaft.told[K][one];
            case 11: return answerOf(10, one, next) + asked(one, ASK_MARK, next);
            case 12: return -answerOf(11, one, next);
            case 13: return answerOf(10, one, next) - 100;
            case 14: return 2 * answerOf(13, one, next);
            case 20: return one;
            case 21: return answerOf(20, one, next) + shaft.told[J][one];
            case 22: return answerOf(21, one, next) - 1000;
            case 23: return answerOf(20, one, next) - asked(one, ASK_SIZE, next);
            case 24: return 2 * answerOf(21, one, next);
            default: return 0;
        }
    }

    private void leaveTrace(int body) {
        if (tracedCount < MOST_TRACED) {
            traced[tracedCount] = body;
            tracedCount++;
        }
    }

    private int rowsThatStand() {
        int many = 0;
        for (int row = 0; row < ROWS; row++) {
            if (!isMissing(row)) {
                many++;
            }
        }
        return many;
    }

    private int found(int number) {
        finding = number;
        return FIRST_FINDING - number;
    }

    private int clean(int answer) {
        finding = 0;
        return answer;
    }

    private int answered(int answer) {
        return answer == OVER ? found(FOUND_OVER) : clean(answer);
    }

    /** What is told of the discs, and what follows of it. No discs: there is no shaft. */
    private static final class Shaft {
        private final int[][] told = new int[TOLD][MOST_DISCS];
        private int discs = 0;
        private int mark = 0;

        private boolean has(int disc) {
            return disc >= 0 && disc < discs;
        }

        private void takeFrom(Shaft other) {
            for (int which = 0; which < TOLD; which++) {
                System.arraycopy(other.told[which], 0, told[which], 0, MOST_DISCS);
            }
            discs = other.discs;
            mark = other.mark;
        }

        private void exchange(int a, int b) {
            for (int which = 0; which < TOLD; which++) {
                int held = told[which][a];
                told[which][a] = told[which][b];
                told[which][b] = held;
            }
        }

        private int sumOf(int which, int bits) {
            int sum = 0;
            for (int disc = 0; disc < discs; disc++) {
                if ((bits >> disc & 1) == 1) {
                    sum += told[which][disc];
                }
            }
            return sum;
        }

        private int ratioOf(int disc) {
            int ratio = 1;
            for (int i = 0; i <= disc && i < discs; i++) {
                if (told[KIND][i] == GEARED) {
                    ratio *= 2;
                }
            }
            return ratio;
        }

        private int weightOf(int disc) {
            int ratio = ratioOf(disc);
            int more = told[KIND][disc] == WHEEL ? told[N][disc] : 0;
            return (told[J][disc] + more) * ratio * ratio;
        }

        private int springOf(int disc) {
            if (disc == discs - 1) {
                return 0;
            }
            int ratio = ratioOf(disc);
            int stiff = told[KIND][disc] == SLIPPING ? told[K][disc] / 2 : told[K][disc];
            return stiff * ratio * ratio;
        }

        private int tieOf(int disc) {
            int ratio = ratioOf(disc);
            int kind = told[KIND][disc];
            return kind == TIED || kind == SLIPPING ? told[N][disc] * ratio * ratio : 0;
        }
    }

    /** The determinants of a shaft that has been measured, and what is reckoned from their signs. */
    private static final class Speeds {
        private final long[] weights = new long[MOST_DISCS];
        private final long[] springs = new long[MOST_DISCS];
        private final long[] ties = new long[MOST_DISCS];
        private final long[] determinants = new long[MOST_DISCS + 1];
        private final int[] boxes = new int[MOST_DISCS];
        private int discs = 0;
        private boolean over = false;

        private void measure(Shaft shaft) {
            discs = shaft.discs;
            for (int disc = 0; disc < discs; disc++) {
                weights[disc] = shaft.weightOf(disc);
                springs[disc] = shaft.springOf(disc);
                ties[disc] = shaft.tieOf(disc);
            }
        }

        private boolean reaches(int last, int m) {
            over = false;
            determinants[0] = 1;
            for (int i = 1; i <= last && i <= discs; i++) {
                long nearer = times(diagonal(i - 1, m), determinants[i - 1]);
                long farther = 0;
                if (i > 1) {
                    long squared = times(springs[i - 2], springs[i - 2]);
                    farther = times(squared, determinants[i - 2]);
                }
                determinants[i] = less(nearer, farther);
                if (over) {
                    return false;
                }
            }
            return true;
        }

        private long diagonal(int disc, int m) {
            long ahead = disc == 0 ? 0 : springs[disc - 1];
            return springs[disc] + ahead + ties[disc] - m * weights[disc];
        }

        private long times(long a, long b) {
            long product = a * b;
            if (a == -1) {
                // the division below would wrap around just as the product does
                over |= b == LEAST_LONG;
            } else if (a != 0) {
                over |= product / a != b;
            }
            return product;
        }

        private long less(long a, long b) {
            long rest = a - b;
            over |= ((a ^ b) & (a ^ rest)) < 0;
            return rest;
        }

        private int belowAt(int m) {
            if (!reaches(discs, m)) {
                return OVER;
            }
            int changes = 0;
            boolean negative = false;
            for (int i = 1; i <= discs; i++) {
                long number = determinants[i];
                boolean next = number == 0 ? negative : number < 0;
                if (next != negative) {
                    changes++;
                }
                negative = next;
            }
            return changes;
        }

        private int boxOf(int k) {
            int most = belowAt(MOST_MARK);
            if (most == OVER) {
                return OVER;
            }
            if (most <= k) {
                return NONE;
            }
            int low = 0;
            int high = MOST_MARK;
            for (int step = 0; step < MOST_MARK && high > low + 1; step++) {
                int half = (low + high) / 2;
                int many = belowAt(half);
                if (many == OVER) {
                    return OVER;
                }
                if (many <= k) {
                    low = half;
                } else {
                    high = half;
                }
            }
            return low;
        }

        private boolean boxesAll() {
            for (int k = 0; k < discs; k++) {
                boxes[k] = boxOf(k);
                if (boxes[k] == OVER) {
                    return false;
                }
            }
            return true;
        }

        private int widestGap() {
            int which = NONE;
            int widest = -1;
            for (int k = 1; k < discs; k++) {
                if (boxes[k] == NONE || boxes[k - 1] == NONE) {
                    continue;
                }
                if (gapAt(k) > widest) {
                    widest = gapAt(k);
                    which = k;
                }
            }
            return which;
        }

        private int gapAt(int k) {
            return k > 0 && k < discs ? boxes[k] - boxes[k - 1] : 0;
        }

        private boolean isClearBy(int at, int t) {
            for (int k = 0; k < discs; k++) {
                if (boxes[k] != NONE && Math.abs(at - boxes[k]) <= t) {
                    return false;
                }
            }
            return true;
        }
    }

    /** The acts that can be undone, the oldest first. */
    private static final class Acts {
        private final int[] whats = new int[MOST_ACTS];
        private final int[] ones = new int[MOST_ACTS];
        private final int[] befores = new int[MOST_ACTS];
        private int size = 0;

        private void forgetAll() {
            size = 0;
        }

        private void keep(int what, int one, int before) {
            if (size == MOST_ACTS) {
                forgetOldest();
            }
            whats[size] = what;
            ones[size] = one;
            befores[size] = before;
            size++;
        }

        private void forgetOldest() {
            size = MOST_ACTS - 1;
            System.arraycopy(whats, 1, whats, 0, size);
            System.arraycopy(ones, 1, ones, 0, size);
            System.arraycopy(befores, 1, befores, 0, size);
        }

        private boolean takeBack(Shaft shaft) {
            if (size <= 0) {
                return false;
            }
            size--;
            int what = whats[size];
            if (what == MARK) {
                shaft.mark = befores[size];
            } else if (what == PLACES && shaft.has(ones[size]) && shaft.has(befores[size])) {
                shaft.exchange(ones[size], befores[size]);
            } else if (what >= 0 && what < TOLD && shaft.has(ones[size])) {
                shaft.told[what][ones[size]] = befores[size];
            }
            return true;
        }
    }

    /** The tape, and how it is read: token by token, up to the first fault. */
    private static final class Reader {
        private final int[] tape = new int[MOST_BYTES];
        private int size = 0;
        private int at = 0;
        private int number = 0;
        private int fault = 0;
        private int faultPlace = 0;

        private boolean takes(int letter) {
            if (size >= MOST_BYTES) {
                return false;
            }
            tape[size] = letter;
            size++;
            return true;
        }

        private boolean reads(Shaft into) {
            at = 0;
            return readsLaw(into) && readsDiscs(into);
        }

        private boolean readsLaw(Shaft into) {
            if (!readsSign('m') || !readsNumber(0, MOST_MARK / 10)) {
                return false;
            }
            int tens = 10 * number;
            if (!readsSign(',') || !readsNumber(0, Math.min(9, MOST_MARK - tens))) {
                return false;
            }
            into.mark = tens + number;
            return readsSign(';');
        }

        private boolean readsDiscs(Shaft into) {
            for (int disc = 0; disc <= MOST_DISCS; disc++) {
                if (at == size && disc >= FEWEST_DISCS) {
                    into.discs = disc;
                    return true;
                }
                int kind = kindOf(byteAtHand());
                if (kind == 0) {
                    return blames(1);
                }
                if (disc == MOST_DISCS) {
                    return blames(3);
                }
                at++;
                into.told[KIND][disc] = kind;
                if (!readsNumbers(into, disc)) {
                    return false;
                }
            }
            return false;
        }

        private boolean readsNumbers(Shaft into, int disc) {
            for (int which = J; which <= N; which++) {
                if (!readsNumber(LEAST_TOLD[which], MOST_TOLD[which])) {
                    return false;
                }
                into.told[which][disc] = number;
                if (!readsSign(which == N ? ';' : ',')) {
                    return false;
                }
            }
            return true;
        }

        private boolean readsSign(int sign) {
            if (byteAtHand() != sign) {
                return blames(1);
            }
            at++;
            return true;
        }

        private boolean readsNumber(int least, int most) {
            int end = at;
            int value = 0;
            // three figures are enough to tell that the run is no number
            while (end < size && end < at + 3 && isFigure(tape[end])) {
                value = 10 * value + tape[end] - '0';
                end++;
            }
            if (end == at || end == at + 3) {
                return blames(1);
            }
            if (value < least || value > most) {
                return blames(2);
            }
            number = value;
            at = end;
            return true;
        }

        private boolean blames(int what) {
            fault = what;
            faultPlace = at;
            return false;
        }

        private int byteAtHand() {
            return at < size ? tape[at] : -1;
        }

        private static boolean isFigure(int letter) {
            return letter >= '0' && letter <= '9';
        }

        private static int kindOf(int letter) {
            switch (letter) {
                case 'p': return PLAIN;
                case 'g': return GEARED;
                case 'w': return WHEEL;
                case 't': return TIED;
                case 's': return SLIPPING;
                default: return 0;
            }
        }
    }
}
