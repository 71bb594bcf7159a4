import java.math.BigInteger;
import java.util.ArrayDeque;
import java.util.ArrayList;
import java.util.Arrays;
import java.util.List;
import java.util.regex.Matcher;
import java.util.regex.Pattern;

/**
 * The document a second time, with all of the library and no care for speed: whole copies of the
 * shaft in place of acts, BigInteger in place of looking for overflow, texts in place of bytes.
 */
final class Model {
    static final int NONE = -1000000, BAD = -1000001, STATE = -1000002, FULL = -1000003;
    static final int NULL = -1000011, PLACE = -1000012, KIND = -1000013;
    static final int SIZE = -1000014, STORE = -1000015, OVER = -1000016;

    record Disc(int kind, int j, int k, int n) {
        Disc with(int which, int v) {
            return switch (which) {
                case 0 -> new Disc(kind, v, k, n);
                case 1 -> new Disc(kind, j, v, n);
                case 2 -> new Disc(kind, j, k, v);
                default -> new Disc(v, j, k, n);
            };
        }

        int told(int which) {
            return which == 0 ? j : which == 1 ? k : which == 2 ? n : kind;
        }
    }

    record Shaft(int mark, List<Disc> discs) {
        Shaft with(int at, Disc disc) {
            List<Disc> next = new ArrayList<>(discs);
            next.set(at, disc);
            return new Shaft(mark, next);
        }

        Shaft with(int at, int which, int v) {
            return with(at, discs.get(at).with(which, v));
        }

        int size() {
            return discs.size();
        }

        int derived(int at, int what) {
            Disc d = discs.get(at);
            long geared = discs.subList(0, at + 1).stream().filter(x -> x.kind() == 2).count();
            int ratio = (int) Math.pow(2, geared);
            int square = ratio * ratio;
            switch (what) {
                case 3: return ratio;
                case 4: return square * (d.kind() == 3 ? d.j() + d.n() : d.j());
                case 5: return at + 1 == size() ? 0 : square * (d.kind() == 5 ? d.k() / 2 : d.k());
                case 6: return d.kind() >= 4 ? square * d.n() : 0;
                default: return d.told(what);
            }
        }

        /** null: OVER. */
        BigInteger determinant(int number, int m) {
            if (number == 0) {
                return BigInteger.ONE;
            }
            BigInteger near = determinant(number - 1, m);
            BigInteger far = number < 2 ? BigInteger.ZERO : determinant(number - 2, m);
            if (near == null || far == null) {
                return null;
            }
            int at = number - 1;
            long d = derived(at, 5) + derived(at, 6) - (long) m * derived(at, 4);
            long spring = at == 0 ? 0 : derived(at - 1, 5);
            BigInteger first = near.multiply(BigInteger.valueOf(d + spring));
            BigInteger second = far.multiply(BigInteger.valueOf(spring * spring));
            BigInteger all = first.subtract(second);
            boolean fits = first.bitLength() < 64 && second.bitLength() < 64 && all.bitLength() < 64;
            return fits ? all : null;
        }

        int below(int m) {
            int changes = 0;
            int sign = 1;
            for (int i = 0; i <= size(); i++) {
                BigInteger x = determinant(i, m);
                if (x == null) {
                    return OVER;
                }
                if (x.signum() == -sign) {
                    changes++;
                    sign = -sign;
                }
            }
            return changes;
        }

        int box(int k) {
            int at200 = below(200);
            if (at200 == OVER) {
                return OVER;
            }
            if (at200 <= k) {
                return NONE;
            }
            int low = 0;
            int high = 200;
            while (high > low + 1) {
                int half = (low + high) / 2;
                int b = below(half);
                if (b == OVER) {
                    return OVER;
                }
                if (b <= k) {
                    low = half;
                } else {
                    high = half;
                }
            }
            return low;
        }

        List<Integer> boxes() {
            List<Integer> all = new ArrayList<>();
            for (int k = 0; k < size(); k++) {
                all.add(box(k));
            }
            return all;
        }
    }

    private final int[][] rows = new int[8][];
    private final int[] lanes = new int[8];
    private final StringBuilder tape = new StringBuilder();
    private final ArrayDeque<Shaft> before = new ArrayDeque<>();
    private final Shaft[] images = new Shaft[2];
    private final List<Integer> trace = new ArrayList<>();
    private Shaft shaft = new Shaft(0, List.of());
    private int fault = 0;
    private int status = 0;

    private int end(int answer) {
        status = answer <= NULL && answer >= OVER ? -1000010 - answer : 0;
        return answer;
    }

    private boolean none() {
        return shaft.size() == 0;
    }

    private boolean no(int disc) {
        return disc < 0 || disc >= shaft.size();
    }

    private static boolean out(int v, int least, int most) {
        return v < least || v > most;
    }

    int row(int row, int lane, int n) {
        if (out(row, 0, 7) || out(lane, 0, 2) || n > 40) {
            return BAD;
        }
        if (n < 0) {
            return end(SIZE);
        }
        rows[row] = new int[n];
        lanes[row] = lane;
        return end(n);
    }

    int set(int row, int i, int v) {
        if (out(row, 0, 7)) {
            return BAD;
        }
        if (rows[row] == null) {
            return end(NULL);
        }
        if (out(i, 0, rows[row].length - 1)) {
            return end(PLACE);
        }
        int unused = 32 - (8 << lanes[row]);
        rows[row][i] = v << unused >> unused;
        status = 0;
        return rows[row][i];
    }

    int copy(int a, int i, int b, int j, int n) {
        if (out(a, 0, 7) || out(b, 0, 7)) {
            return BAD;
        }
        if (rows[a] == null || rows[b] == null) {
            return end(NULL);
        }
        if (lanes[a] != lanes[b]) {
            return end(STORE);
        }
        if (i < 0 || j < 0 || n < 0 || (long) i + n > rows[a].length || (long) j + n > rows[b].length) {
            return end(PLACE);
        }
        int[] old = rows[a].clone();
        for (int at = 0; at < n; at++) {
            rows[b][j + at] = old[i + at];
        }
        return end(n);
    }

    int drop(int row) {
        if (out(row, 0, 7)) {
            return BAD;
        }
        if (rows[row] == null) {
            return end(NULL);
        }
        int had = rows[row].length;
        rows[row] = null;
        return end(had);
    }

    int feed(int letter) {
        if (out(letter, 0, 255)) {
            return BAD;
        }
        if (tape.length() == 80) {
            return FULL;
        }
        tape.append((char) letter);
        return tape.length();
    }

    int shaft() {
        String text = tape.toString();
        tape.setLength(0);
        List<String> tokens = new ArrayList<>();
        List<Integer> places = new ArrayList<>();
        Matcher matcher = Pattern.compile("[0-9]+|.", Pattern.DOTALL).matcher(text);
        while (matcher.find()) {
            tokens.add(matcher.group());
            places.add(matcher.start());
        }
        tokens.add("");
        places.add(text.length());
        List<Integer> numbers = new ArrayList<>();
        List<Disc> discs = new ArrayList<>();
        for (int i = 0; i < tokens.size(); i++) {
            int wrong = faultOf(tokens.get(i), i, numbers);
            if (wrong != 0) {
                fault = wrong;
                return -1000100 - places.get(i);
            }
        }
        for (int i = 2; i < numbers.size(); i += 4) {
            discs.add(new Disc(numbers.get(i), numbers.get(i + 1), numbers.get(i + 2), numbers.get(i + 3)));
        }
        shaft = new Shaft(10 * numbers.get(0) + numbers.get(1), discs);
        before.clear();
        return discs.size();
    }

    /** By the token's number alone: 5 tokens of the law, then 7 of each disc. */
    private static int faultOf(String token, int i, List<Integer> numbers) {
        int disc = i < 5 ? -1 : (i - 5) / 7;
        int part = i < 5 ? i : (i - 5) % 7;
        if (part == 0) {
            if (disc >= 2 && token.isEmpty()) {
                return 0;
            }
            if (token.length() != 1 || (disc < 0 ? "m" : "pgwts").indexOf(token) < 0) {
                return 1;
            }
            if (disc >= 0) {
                numbers.add("pgwts".indexOf(token) + 1);
            }
            return disc == 6 ? 3 : 0;
        }
        if (part % 2 == 0) {
            return token.equals(part == (disc < 0 ? 4 : 6) ? ";" : ",") ? 0 : 1;
        }
        if (!token.matches("[0-9]{1,2}")) {
            return 1;
        }
        int v = Integer.parseInt(token);
        int[] least = disc < 0 ? new int[] {0, 0} : new int[] {1, 0, 0};
        int[] most = disc < 0 ? new int[] {20, 9} : new int[] {5, 40, 9};
        boolean tooFar = disc < 0 && part == 3 && 10 * numbers.get(0) + v > 200;
        numbers.add(v);
        return tooFar || out(v, least[part / 2], most[part / 2]) ? 2 : 0;
    }

    int fault() {
        return fault;
    }

    int undo() {
        if (before.isEmpty()) {
            return STATE;
        }
        shaft = before.pop();
        return before.size();
    }

    private void act(Shaft next) {
        before.push(shaft);
        if (before.size() > 24) {
            before.removeLast();
        }
        shaft = next;
    }

    int change(int disc, int which, int v) {
        if (no(disc) || out(which, 0, 2) || v < (which == 0 ? 1 : 0) || v > new int[] {5, 40, 9}[which]) {
            return BAD;
        }
        int was = shaft.discs().get(disc).told(which);
        act(shaft.with(disc, which, v));
        return was;
    }

    int become(int disc, int kind) {
        if (no(disc) || out(kind, 1, 5)) {
            return BAD;
        }
        int was = shaft.discs().get(disc).kind();
        if (was == kind) {
            return STATE;
        }
        act(shaft.with(disc, 3, kind));
        return was;
    }

    int mark(int v) {
        if (none()) {
            return STATE;
        }
        if (out(v, 0, 200)) {
            return BAD;
        }
        int was = shaft.mark();
        act(new Shaft(v, shaft.discs()));
        return was;
    }

    int swap(int a, int b) {
        if (no(a) || no(b)) {
            return BAD;
        }
        if (a == b) {
            return STATE;
        }
        Disc first = shaft.discs().get(a);
        act(shaft.with(a, shaft.discs().get(b)).with(b, first));
        return Math.max(a, b) - Math.min(a, b) + 1;
    }

    int disc(int disc, int what) {
        return no(disc) || out(what, 0, 6) ? BAD : shaft.derived(disc, what);
    }

    long determinant(int i, int m) {
        if (none()) {
            return STATE;
        }
        if (out(i, 0, shaft.size()) || out(m, 0, 200)) {
            return BAD;
        }
        BigInteger number = shaft.determinant(i, m);
        status = number == null ? 6 : 0;
        return number == null ? OVER : number.longValueExact();
    }

    int below(int m) {
        return none() ? STATE : out(m, 0, 200) ? BAD : end(shaft.below(m));
    }

    int box(int k) {
        return no(k) ? BAD : end(shaft.box(k));
    }

    int widest(int what) {
        if (none()) {
            return STATE;
        }
        if (out(what, 0, 1)) {
            return BAD;
        }
        List<Integer> boxes = shaft.boxes();
        if (boxes.contains(OVER)) {
            return end(OVER);
        }
        int best = NONE;
        int far = NONE;
        for (int k = boxes.size() - 1; k >= 1; k--) {
            if (boxes.get(k) != NONE && boxes.get(k - 1) != NONE && boxes.get(k) - boxes.get(k - 1) >= far) {
                far = boxes.get(k) - boxes.get(k - 1);
                best = k;
            }
        }
        return end(what == 0 ? best : far);
    }

    int clear(int m, int t) {
        if (none()) {
            return STATE;
        }
        if (out(m, 0, 200) || out(t, 0, 9)) {
            return BAD;
        }
        List<Integer> boxes = shaft.boxes();
        if (boxes.contains(OVER)) {
            return end(OVER);
        }
        boolean[] taken = new boolean[201];
        for (int box : boxes) {
            for (int at = box - t; at <= box + t; at++) {
                if (!out(at, 0, 200)) {
                    taken[at] = true;
                }
            }
        }
        for (int at = m; at <= 200; at++) {
            if (!taken[at]) {
                return end(at);
            }
        }
        return end(NONE);
    }

    int stiffer(int disc, int v) {
        if (no(disc) || disc == shaft.size() - 1 || out(v, 0, 6)) {
            return BAD;
        }
        for (int more = 0; more <= 60; more++) {
            int b = shaft.with(disc, 1, shaft.discs().get(disc).k() + more).below(shaft.mark());
            if (b == OVER) {
                return end(OVER);
            }
            if (b <= v) {
                return end(more);
            }
        }
        return end(NONE);
    }

    int sets(int v, int what) {
        if (none()) {
            return STATE;
        }
        if (out(v, 0, 99) || out(what, 0, 2)) {
            return BAD;
        }
        List<Integer> fit = new ArrayList<>();
        for (int bits = 0; bits < 1 << shaft.size(); bits++) {
            int sum = 0;
            for (int i = 0; i < shaft.size(); i++) {
                sum += (bits >> i & 1) * shaft.discs().get(i).j();
            }
            if (sum == v) {
                fit.add(bits);
            }
        }
        if (what == 0) {
            return fit.size();
        }
        return fit.stream().reduce((a, b) -> what == 1 ? a & b : a | b).orElse(0);
    }

    int share(int disc, int n) {
        if (no(disc) || out(n, 0, 999)) {
            return BAD;
        }
        int all = shaft.discs().stream().mapToInt(Disc::k).sum();
        if (all == 0) {
            return 0;
        }
        int[] gets = shaft.discs().stream().mapToInt(d -> n * d.k() / all).toArray();
        int left = n - Arrays.stream(gets).sum();
        for (int i = 0; i < gets.length && left > 0; i++) {
            if (shaft.discs().get(i).k() != 0) {
                gets[i]++;
                left--;
            }
        }
        return gets[disc];
    }

    int byTurns(int n) {
        return none() ? STATE : out(n, 0, 3) ? BAD : turns(shaft, 0, n);
    }

    private static int turns(Shaft s, int done, int n) {
        if (done == n) {
            int b = s.below(s.mark());
            return b == OVER ? s.size() : b;
        }
        List<Integer> all = new ArrayList<>();
        for (int i = 0; i < s.size(); i++) {
            Disc d = s.discs().get(i);
            Disc next = done % 2 == 0 ? d.with(1, d.k() + 5) : d.with(0, d.j() + 1);
            all.add(turns(s.with(i, next), done + 1, n));
        }
        return all.stream().reduce(done % 2 == 0 ? Math::min : Math::max).get();
    }

    int who(int disc, int which, int row, int i, int n) {
        if (no(disc) || out(which, 0, 3) || out(row, 0, 7) || out(n, 1, shaft.size())) {
            return BAD;
        }
        if (rows[row] == null) {
            return end(NULL);
        }
        if (i < 0 || (long) i + n > rows[row].length) {
            return end(PLACE);
        }
        List<Integer> fit = new ArrayList<>();
        for (int v = which < 2 ? 1 : 0; v <= (which < 2 ? 5 : 40); v++) {
            Shaft s = shaft.with(disc, which == 0 ? 3 : which == 1 ? 0 : 1, v);
            boolean so = true;
            for (int k = 0; k < n && so; k++) {
                int box = s.box(k);
                so = box != OVER && rows[row][i + k] == (box == NONE ? -1 : box);
            }
            if (so) {
                fit.add(v);
            }
        }
        if (which < 2) {
            return end(fit.stream().mapToInt(v -> 1 << v).sum());
        }
        return end(which == 2 ? fit.size() : fit.isEmpty() ? NONE : fit.get(0));
    }

    long broken(int v, int p, int what) {
        if (none()) {
            return STATE;
        }
        if (out(v, 0, 6) || out(p, 0, 10) || out(what, 0, 1)) {
            return BAD;
        }
        BigInteger above = cases(shaft, 0, v, p);
        BigInteger below = BigInteger.TEN.pow(shaft.size() - 1);
        BigInteger common = above.gcd(below);
        return (what == 0 ? above : below).divide(common).longValueExact();
    }

    private static BigInteger cases(Shaft s, int at, int v, int p) {
        if (at == s.size() - 1) {
            return s.below(s.mark()) == v ? BigInteger.ONE : BigInteger.ZERO;
        }
        BigInteger gone = cases(s.with(at, 1, 0), at + 1, v, p).multiply(BigInteger.valueOf(p));
        return gone.add(cases(s, at + 1, v, p).multiply(BigInteger.valueOf(10 - p)));
    }

    int drawn(int n, int seed, int what) {
        if (none()) {
            return STATE;
        }
        if (out(n, 0, 40) || out(seed, 1, 999999) || out(what, 0, 1)) {
            return BAD;
        }
        Shaft s = shaft;
        long x = seed;
        int sum = 0;
        int overs = 0;
        for (int i = 0; i < n; i++) {
            x = BigInteger.valueOf(x).multiply(BigInteger.valueOf(16807))
                    .mod(BigInteger.valueOf(Integer.MAX_VALUE)).longValueExact();
            int at = (int) (x % s.size());
            s = x % 3 == 0 ? s.with(at, 1, (int) ((x >> 4) % 41)) : s.with(at, 0, 1 + (int) ((x >> 8) % 5));
            int b = s.below(s.mark());
            overs += b == OVER ? 1 : 0;
            sum += b == OVER ? 0 : b;
        }
        return what == 0 ? sum : overs;
    }

    int image(int k) {
        if (out(k, 0, 1)) {
            return BAD;
        }
        if (none()) {
            return STATE;
        }
        images[k] = shaft;
        return 1;
    }

    int restore(int k) {
        if (out(k, 0, 1)) {
            return BAD;
        }
        if (images[k] == null) {
            return STATE;
        }
        shaft = images[k];
        before.clear();
        return 1;
    }

    int kind(int one) {
        return no(one) ? BAD : shaft.discs().get(one).kind();
    }

    int as(int one, int kind) {
        if (no(one) || out(kind, 0, 5)) {
            return BAD;
        }
        String[] kinds = {"", "01", "012", "013", "04", "045"};
        return end(kinds[kind(one)].indexOf('0' + kind) >= 0 ? one : KIND);
    }

    int ask(int one, int what) {
        if (no(one) || out(what, 0, 1)) {
            return BAD;
        }
        trace.clear();
        return what == 0 ? size(one) : markOf(one);
    }

    private int size(int one) {
        int k = shaft.discs().get(one).k();
        switch (kind(one)) {
            case 2:
                trace.addAll(List.of(12, 11, 10));
                return -(k + markOf(one));
            case 4:
                trace.addAll(List.of(13, 10));
                return k - 100;
            case 5:
                trace.addAll(List.of(14, 13, 10));
                return 2 * (k - 100);
            default:
                trace.addAll(List.of(11, 10));
                return k + markOf(one);
        }
    }

    private int markOf(int one) {
        int j = shaft.discs().get(one).j();
        switch (kind(one)) {
            case 1:
                trace.addAll(List.of(21, 20));
                return one + j;
            case 2:
                trace.addAll(List.of(24, 21, 20));
                return 2 * (one + j);
            case 3:
                trace.addAll(List.of(22, 21, 20));
                return one + j - 1000;
            default:
                trace.addAll(List.of(23, 20));
                return one - size(one);
        }
    }

    int trace(int i) {
        return out(i, 0, trace.size() - 1) ? NONE : trace.get(i);
    }

    int count(int what) {
        switch (what) {
            case 0: return (int) Arrays.stream(rows).filter(r -> r != null).count();
            case 1: return shaft.size();
            case 2: return shaft.mark();
            case 3: return shaft.discs().stream().mapToInt(Disc::j).sum();
            case 4: return shaft.discs().stream().mapToInt(Disc::k).sum();
            case 5: return before.size();
            case 6: return tape.length();
            default: return BAD;
        }
    }

    int status() {
        return status;
    }
}
