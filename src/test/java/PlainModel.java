import java.math.BigInteger;
import java.util.ArrayList;
import java.util.Arrays;
import java.util.List;

/**
 * The document written a second time, for the tests alone: fractions without bounds, elimination where
 * the class uses determinants, states as lists. Slow and plain.
 */
final class PlainModel {
    static final int BAD = -1, FINDING = -3, STATE = -4, NONE = -9;

    /** A fraction without bounds, in lowest terms. */
    static final class Ratio implements Comparable<Ratio> {
        static final Ratio ZERO = new Ratio(BigInteger.ZERO, BigInteger.ONE);
        static final Ratio ONE = new Ratio(BigInteger.ONE, BigInteger.ONE);
        final BigInteger up;
        final BigInteger low;

        private Ratio(BigInteger up, BigInteger low) {
            BigInteger common = up.gcd(low);
            BigInteger by = low.signum() < 0 ? common.negate() : common;
            this.up = up.divide(by);
            this.low = low.divide(by);
        }

        static Ratio of(long up, long low) {
            return new Ratio(BigInteger.valueOf(up), BigInteger.valueOf(low));
        }

        static Ratio of(long up) {
            return of(up, 1);
        }

        Ratio plus(Ratio o) {
            return new Ratio(up.multiply(o.low).add(o.up.multiply(low)), low.multiply(o.low));
        }

        Ratio minus(Ratio o) {
            return plus(new Ratio(o.up.negate(), o.low));
        }

        Ratio times(Ratio o) {
            return new Ratio(up.multiply(o.up), low.multiply(o.low));
        }

        Ratio by(Ratio o) {
            return new Ratio(up.multiply(o.low), low.multiply(o.up));
        }

        Ratio power(int k) {
            return new Ratio(up.pow(k), low.pow(k));
        }

        boolean isZero() {
            return up.signum() == 0;
        }

        @Override public int compareTo(Ratio o) {
            return up.multiply(o.low).compareTo(o.up.multiply(low));
        }
    }

    final int[][] rows = new int[6][];
    final int[] kind = {-1, -1, -1, -1};
    final int[] rate = new int[4];
    final int[] hands = new int[4];
    final int[] room = new int[4];
    final int[] comes = new int[4];
    final int[][] ways = new int[4][4];
    final int[] found = new int[6];
    int finding = 0;
    int asked = 0;
    Ratio told = Ratio.ZERO;

    private int find(int f) {
        finding = f;
        found[f]++;
        return FINDING;
    }

    private int tell(Ratio r, int answer) {
        told = r;
        return answer;
    }

    private int ask(int number, int answer) {
        asked = number;
        return answer;
    }

    private static boolean out(int v, int least, int most) {
        return v < least || v > most;
    }

    private static boolean noRow(int r) {
        return out(r, 0, 5);
    }

    private static boolean noCounter(int c) {
        return out(c, 0, 3);
    }

    // ---- 1

    int row(int r, int n) {
        if (noRow(r) || n > 40) return BAD;
        if (n < 0) return find(5);
        rows[r] = new int[n];
        return n;
    }

    int lay(int r, int i, int v) {
        if (noRow(r)) return BAD;
        if (rows[r] == null) return find(1);
        if (out(i, 0, rows[r].length - 1)) return find(2);
        int before = rows[r][i];
        rows[r][i] = v;
        return ask(before, 1);
    }

    int tear(int r) {
        if (noRow(r)) return BAD;
        if (rows[r] == null) return find(1);
        rows[r] = null;
        return 1;
    }

    int copy(int r, int i, int to, int j, int n) {
        if (noRow(r) || noRow(to)) return BAD;
        if (n < 0) return find(5);
        if (rows[r] == null || rows[to] == null) return find(1);
        if (i < 0 || j < 0 || (long) i + n > rows[r].length || (long) j + n > rows[to].length) return find(2);
        int[] held = rows[r].clone();
        for (int k = 0; k < n; k++) rows[to][j + k] = held[i + k];
        return 1;
    }

    int average(int r) {
        if (noRow(r)) return BAD;
        if (rows[r] == null) return find(1);
        if (rows[r].length == 0) return find(4);
        BigInteger sum = BigInteger.ZERO;
        for (int v : rows[r]) sum = sum.add(BigInteger.valueOf(v));
        return ask(sum.divide(BigInteger.valueOf(rows[r].length)).intValueExact(), 1);
    }

    int counter(int c, int k) {
        if (noCounter(c) || out(k, 0, 5)) return BAD;
        int before = kind[c] >= 0 ? 1 : 0;
        clear(c);
        kind[c] = k;
        return before;
    }

    private void clear(int c) {
        kind[c] = -1;
        rate[c] = 1;
        hands[c] = 1;
        room[c] = 1;
        comes[c] = 0;
        for (int o = 0; o < 4; o++) {
            ways[c][o] = 0;
            ways[o][c] = 0;
        }
    }

    int drop(int c) {
        if (noCounter(c)) return BAD;
        if (kind[c] < 0) return find(1);
        clear(c);
        return 1;
    }

    private static int swap(int[] row, int c, int v) {
        int before = row[c];
        row[c] = v;
        return before;
    }

    int rate(int c, int v) {
        if (noCounter(c) || v < 1 || v > 12 || 12 % v != 0) return BAD;
        if (kind[c] < 0) return find(1);
        return swap(rate, c, v);
    }

    int hands(int c, int v) {
        if (noCounter(c) || out(v, 1, 2)) return BAD;
        if (kind[c] < 0) return find(1);
        if (kind[c] != 0) return find(3);
        return swap(hands, c, v);
    }

    int room(int c, int v) {
        if (noCounter(c) || out(v, 1, 6)) return BAD;
        if (kind[c] < 0) return find(1);
        if (kind[c] != 5) return find(3);
        return swap(room, c, v);
    }

    int way(int from, int to, int q) {
        if (noCounter(from) || noCounter(to) || out(q, 0, 4)) return BAD;
        if (kind[from] < 0 || kind[to] < 0) return find(1);
        if (Arrays.stream(ways[from]).sum() - ways[from][to] + q > 4) return STATE;
        return swap(ways[from], to, q);
    }

    int comes(int c, int many) {
        if (noCounter(c) || out(many, 0, 9)) return BAD;
        if (kind[c] < 0) return find(1);
        return swap(comes, c, many);
    }

    private int leaving(int c) {
        return 4 - Arrays.stream(ways[c]).sum();
    }

    private int fact(int c, int what) {
        return new int[] {kind[c], rate[c], hands[c], comes[c], leaving(c)}[what];
    }

    int told(int c, int what) {
        if (noCounter(c) || out(what, 0, 4)) return BAD;
        if (kind[c] < 0) return find(1);
        return ask(fact(c, what), 1);
    }

    int mark(int c, int k) {
        if (noCounter(c) || out(k, 1, 5)) return BAD;
        if (kind[c] < 0) return find(1);
        List<Integer> is = List.of(
            List.of(0), List.of(1), List.of(1, 2), List.of(1, 3), List.of(4), List.of(5)).get(kind[c]);
        if (!is.contains(k)) return find(3);
        int leads = 0;
        for (int o = 0; o < 4; o++) if (ways[o][c] > 0) leads++;
        return new int[] {0, rate[c], leads, 12 / rate[c], rate[c] - 1, room[c]}[k];
    }

    int product() {
        for (int k : kind) if (k >= 4) return 0;
        return 1;
    }

    // ---- 2

    private boolean leads(int from, int to) {
        boolean[] seen = new boolean[4];
        seen[from] = true;
        ArrayList<Integer> open = new ArrayList<>(List.of(from));
        while (!open.isEmpty()) {
            int at = open.remove(0);
            for (int o = 0; o < 4; o++) {
                if (ways[at][o] > 0 && !seen[o]) {
                    seen[o] = true;
                    open.add(o);
                }
            }
        }
        return seen[to];
    }

    private boolean someCome(int c) {
        for (int o = 0; o < 4; o++) if (kind[o] >= 0 && comes[o] > 0 && leads(o, c)) return true;
        return false;
    }

    private boolean isLeft(int c) {
        for (int o = 0; o < 4; o++) if (leads(c, o) && leaving(o) > 0) return true;
        return false;
    }

    int kept() {
        int bits = 0;
        for (int c = 0; c < 4; c++) if (kind[c] >= 0 && someCome(c) && !isLeft(c)) bits |= 1 << c;
        return bits;
    }

    /** The one x with the sums of a's lines times x as in b. */
    static Ratio[] solve(Ratio[][] a, Ratio[] b) {
        int n = b.length;
        for (int k = 0; k < n; k++) {
            int p = k;
            while (a[p][k].isZero()) p++;
            Ratio[] line = a[p];
            a[p] = a[k];
            a[k] = line;
            Ratio held = b[p];
            b[p] = b[k];
            b[k] = held;
            for (int i = 0; i < n; i++) {
                if (i == k || a[i][k].isZero()) continue;
                Ratio f = a[i][k].by(a[k][k]);
                for (int j = 0; j < n; j++) a[i][j] = a[i][j].minus(f.times(a[k][j]));
                b[i] = b[i].minus(f.times(b[k]));
            }
        }
        Ratio[] x = new Ratio[n];
        for (int k = 0; k < n; k++) x[k] = b[k].by(a[k][k]);
        return x;
    }

    private static Ratio[][] zeros(int n) {
        Ratio[][] a = new Ratio[n][n];
        for (Ratio[] line : a) Arrays.fill(line, Ratio.ZERO);
        return a;
    }

    private Ratio flowOf(int c) {
        List<Integer> come = new ArrayList<>();
        for (int o = 0; o < 4; o++) if (kind[o] >= 0 && someCome(o)) come.add(o);
        if (!come.contains(c)) return Ratio.ZERO;
        int n = come.size();
        Ratio[][] a = zeros(n);
        Ratio[] b = new Ratio[n];
        for (int i = 0; i < n; i++) {
            b[i] = Ratio.of(comes[come.get(i)]);
            for (int j = 0; j < n; j++) {
                a[i][j] = Ratio.of(i == j ? 1 : 0).minus(Ratio.of(ways[come.get(j)][come.get(i)], 4));
            }
        }
        return solve(a, b)[come.indexOf(c)];
    }

    private Ratio useOf(int c) {
        Ratio perHand = flowOf(c).by(Ratio.of(rate[c]));
        return kind[c] == 3 ? perHand : perHand.by(Ratio.of(hands[c]));
    }

    private boolean isFull(int c) {
        return kind[c] != 3 && useOf(c).compareTo(Ratio.ONE) >= 0;
    }

    int flow(int c) {
        if (noCounter(c)) return BAD;
        if (kind[c] < 0) return find(1);
        if (kept() != 0) return STATE;
        return tell(flowOf(c), 1);
    }

    int use(int c) {
        if (noCounter(c)) return BAD;
        if (kind[c] < 0) return find(1);
        if (kept() != 0) return STATE;
        return tell(useOf(c), isFull(c) ? 1 : 0);
    }

    int mean(int c, boolean wait) {
        if (noCounter(c)) return BAD;
        if (kind[c] < 0) return find(1);
        if (kept() != 0 || product() == 0 || isFull(c)) return STATE;
        if (wait && flowOf(c).isZero()) return find(4);
        Ratio u = useOf(c);
        Ratio mean = u;
        if (kind[c] == 0 && hands[c] == 2) {
            mean = Ratio.of(2).times(u).by(Ratio.ONE.minus(u.times(u)));
        } else if (kind[c] != 3) {
            mean = u.by(Ratio.ONE.minus(u));
        }
        return tell(wait ? mean.by(flowOf(c)) : mean, 1);
    }

    // ---- 3

    int closed() {
        if (product() == 0) return 0;
        boolean some = false;
        for (int c = 0; c < 4; c++) {
            if (kind[c] < 0) continue;
            some = true;
            if (comes[c] != 0 || leaving(c) != 0) return 0;
            for (int o = 0; o < 4; o++) if (kind[o] >= 0 && !leads(c, o)) return 0;
        }
        return some ? 1 : 0;
    }

    private List<Integer> there() {
        List<Integer> there = new ArrayList<>();
        for (int c = 0; c < 4; c++) if (kind[c] >= 0) there.add(c);
        return there;
    }

    /** VISITS, the first taken as 1 at first, then made whole. */
    private long[] visitsOfAll() {
        List<Integer> there = there();
        int n = there.size();
        Ratio[][] a = zeros(n);
        Ratio[] b = new Ratio[n];
        Arrays.fill(b, Ratio.ZERO);
        for (int i = 1; i < n; i++) {
            for (int j = 0; j < n; j++) {
                a[i][j] = Ratio.of(i == j ? 1 : 0).minus(Ratio.of(ways[there.get(j)][there.get(i)], 4));
            }
        }
        a[0][0] = Ratio.ONE;
        b[0] = Ratio.ONE;
        Ratio[] v = solve(a, b);
        BigInteger low = BigInteger.ONE;
        for (Ratio r : v) low = low.multiply(r.low).divide(low.gcd(r.low));
        BigInteger common = BigInteger.ZERO;
        for (Ratio r : v) common = common.gcd(r.up.multiply(low).divide(r.low));
        long[] visits = new long[4];
        for (int i = 0; i < n; i++) {
            visits[there.get(i)] = v[i].up.multiply(low).divide(v[i].low).divide(common).longValueExact();
        }
        return visits;
    }

    private List<int[]> states(int n) {
        List<int[]> states = new ArrayList<>();
        for (int code = 0; code < 625; code++) {
            int[] s = {code % 5, code / 5 % 5, code / 25 % 5, code / 125};
            boolean fine = Arrays.stream(s).sum() == n;
            for (int c = 0; c < 4; c++) fine &= s[c] == 0 || kind[c] >= 0;
            if (fine) states.add(s);
        }
        return states;
    }

    private Ratio weight(int[] state, int[] withHands, long[] visits) {
        Ratio w = Ratio.ONE;
        for (int c = 0; c < 4; c++) {
            int k = state[c];
            if (k == 0) continue;
            w = w.times(Ratio.of(visits[c], rate[c]).power(k));
            if (kind[c] == 3) {
                for (int f = 2; f <= k; f++) w = w.by(Ratio.of(f));
            } else if (kind[c] == 0 && withHands[c] == 2) {
                w = w.by(Ratio.of(2).power(k - 1));
            }
        }
        return w;
    }

    private Ratio sum(int n, int[] withHands) {
        long[] visits = visitsOfAll();
        Ratio sum = Ratio.ZERO;
        for (int[] s : states(n)) sum = sum.plus(weight(s, withHands, visits));
        return sum;
    }

    private Ratio throughOf(int c, int n, int[] withHands) {
        Ratio before = n == 1 ? Ratio.ONE : sum(n - 1, withHands);
        return Ratio.of(visitsOfAll()[c]).times(before).by(sum(n, withHands));
    }

    int visits(int c) {
        if (noCounter(c)) return BAD;
        if (kind[c] < 0) return find(1);
        if (closed() == 0) return STATE;
        return (int) visitsOfAll()[c];
    }

    int chance(int r) {
        if (noRow(r)) return BAD;
        if (closed() == 0) return STATE;
        if (rows[r] == null) return find(1);
        if (rows[r].length != 4) return find(5);
        for (int n = 1; n <= 4; n++) {
            for (int[] s : states(n)) {
                if (Arrays.equals(s, rows[r])) {
                    return tell(weight(s, hands, visitsOfAll()).by(sum(n, hands)), n);
                }
            }
        }
        return find(3);
    }

    private int refusedRound(int c, int n) {
        if (noCounter(c) || out(n, 1, 4)) return BAD;
        if (kind[c] < 0) return find(1);
        return closed() == 0 ? STATE : 0;
    }

    int through(int c, int n) {
        int refused = refusedRound(c, n);
        return refused != 0 ? refused : tell(throughOf(c, n, hands), 1);
    }

    int meanOf(int c, int n) {
        int refused = refusedRound(c, n);
        if (refused != 0) return refused;
        Ratio mean = Ratio.ZERO;
        for (int[] s : states(n)) {
            mean = mean.plus(Ratio.of(s[c]).times(weight(s, hands, visitsOfAll())));
        }
        return tell(mean.by(sum(n, hands)), 1);
    }

    int round(int c, int n) {
        int refused = refusedRound(c, n);
        return refused != 0 ? refused : tell(Ratio.of(n).by(throughOf(c, n, hands)), 1);
    }

    private Ratio strain(int c) {
        return Ratio.of(visitsOfAll()[c]).by(Ratio.of(rate[c])).by(Ratio.of(kind[c] == 0 ? hands[c] : 1));
    }

    int narrow() {
        if (closed() == 0) return STATE;
        int narrow = NONE;
        for (int c : there()) {
            if (kind[c] != 3 && (narrow == NONE || strain(c).compareTo(strain(narrow)) > 0)) narrow = c;
        }
        return narrow;
    }

    int bound(int c, int n) {
        int refused = refusedRound(c, n);
        if (refused != 0) return refused;
        long[] visits = visitsOfAll();
        Ratio sum = Ratio.ZERO;
        for (int o : there()) sum = sum.plus(Ratio.of(visits[o], rate[o]));
        Ratio bound = Ratio.of(visits[c] * n).by(sum);
        int narrow = narrow();
        if (narrow != NONE) {
            Ratio other = Ratio.of(visits[c]).by(strain(narrow));
            if (other.compareTo(bound) < 0) bound = other;
        }
        return tell(bound, 1);
    }

    int best(int n) {
        if (out(n, 1, 4)) return BAD;
        if (closed() == 0) return STATE;
        int best = NONE;
        Ratio most = null;
        for (int c : there()) {
            if (kind[c] != 0 || hands[c] != 1) continue;
            int[] more = hands.clone();
            more[c] = 2;
            Ratio through = throughOf(there().get(0), n, more);
            if (most == null || through.compareTo(most) > 0) {
                most = through;
                best = c;
            }
        }
        return most == null ? NONE : tell(most, best);
    }

    private Ratio pace(int c, int k) {
        int busy = kind[c] == 3 ? k : Math.min(k, kind[c] == 0 ? hands[c] : 1);
        return Ratio.of((long) rate[c] * busy);
    }

    int balance(int n) {
        if (out(n, 1, 4)) return BAD;
        if (closed() == 0) return STATE;
        List<int[]> states = states(n);
        long[] visits = visitsOfAll();
        Ratio[] coming = new Ratio[states.size()];
        Ratio[] going = new Ratio[states.size()];
        Arrays.fill(coming, Ratio.ZERO);
        Arrays.fill(going, Ratio.ZERO);
        for (int s = 0; s < states.size(); s++) {
            int[] at = states.get(s);
            Ratio w = weight(at, hands, visits);
            for (int from = 0; from < 4; from++) {
                for (int to = 0; to < 4; to++) {
                    if (at[from] == 0 || ways[from][to] == 0) continue;
                    Ratio moved = w.times(pace(from, at[from])).times(Ratio.of(ways[from][to], 4));
                    int[] next = at.clone();
                    next[from]--;
                    next[to]++;
                    going[s] = going[s].plus(moved);
                    for (int t = 0; t < states.size(); t++) {
                        if (Arrays.equals(states.get(t), next)) coming[t] = coming[t].plus(moved);
                    }
                }
            }
        }
        int even = 0;
        for (int s = 0; s < states.size(); s++) if (coming[s].compareTo(going[s]) == 0) even++;
        return even;
    }

    // ---- 4

    int ranked(int c, int a, int b, boolean breaking, int which) {
        if (noCounter(c) || out(a, 0, 9) || out(b, 0, 9) || out(which, 0, 1)) return BAD;
        if (kind[c] < 0) return find(1);
        if (kind[c] != 4) return find(3);
        int r = rate[c];
        if (a + b >= r) return STATE;
        Ratio both = Ratio.of(a + b, r - a - b);
        Ratio first = Ratio.of(a, r - a);
        if (breaking) return tell(which == 0 ? first : both.minus(first), 1);
        Ratio one = Ratio.of(1, r);
        Ratio time = which == 0
            ? Ratio.of(a + b).by(Ratio.of(r)).by(Ratio.of(r - a))
            : Ratio.of(a + b).by(Ratio.of(r - a)).by(Ratio.of(r - a - b));
        return tell(Ratio.of(which == 0 ? a : b).times(time.plus(one)), 1);
    }

    int roomed(int c, int a, int i) {
        if (noCounter(c) || out(a, 1, 9) || i < -1) return BAD;
        if (kind[c] < 0) return find(1);
        if (kind[c] != 5) return find(3);
        if (i > room[c]) return BAD;
        Ratio x = Ratio.of(a, rate[c]);
        Ratio sum = Ratio.ZERO;
        for (int k = 0; k <= room[c]; k++) sum = sum.plus(x.power(k));
        if (i >= 0) return tell(x.power(i).by(sum), 1);
        return tell(Ratio.of(a).times(x.power(room[c])).by(sum), 1);
    }

    private int side(int r) {
        for (int n = 2; n <= 6; n++) if (rows[r].length == n * n) return n;
        return 0;
    }

    private boolean isChain(int r) {
        int n = side(r);
        for (int k = 0; k < n * n; k++) if (k / n != k % n && out(rows[r][k], 0, 12)) return false;
        return true;
    }

    private int refusedChain(int r) {
        if (noRow(r)) return BAD;
        if (rows[r] == null) return find(1);
        if (side(r) == 0) return find(5);
        return isChain(r) ? 0 : find(3);
    }

    /** Each set of states is tried: all in it lead to one another, to none without. */
    private List<Integer> sets(int r) {
        int n = side(r);
        boolean[][] to = new boolean[n][n];
        for (int i = 0; i < n; i++) {
            for (int j = 0; j < n; j++) to[i][j] = i == j || rows[r][i * n + j] > 0;
        }
        for (int k = 0; k < n; k++) {
            for (int i = 0; i < n; i++) {
                for (int j = 0; j < n; j++) to[i][j] |= to[i][k] && to[k][j];
            }
        }
        List<Integer> sets = new ArrayList<>();
        for (int least = 0; least < n; least++) {
            for (int set = 1; set < 1 << n; set++) {
                if (Integer.numberOfTrailingZeros(set) != least) continue;
                boolean fine = true;
                for (int i = 0; i < n; i++) {
                    for (int j = 0; j < n; j++) {
                        if ((set >> i & 1) != 0) fine &= to[i][j] == ((set >> j & 1) != 0);
                    }
                }
                if (fine) sets.add(set);
            }
        }
        return sets;
    }

    int lasting(int r, int i) {
        int refused = refusedChain(r);
        if (refused != 0) return refused;
        int n = side(r);
        if (out(i, 0, n - 1)) return find(2);
        List<Integer> sets = sets(r);
        if (sets.size() != 1) return STATE;
        Ratio[][] a = zeros(n);
        Ratio[] b = new Ratio[n];
        Arrays.fill(b, Ratio.ZERO);
        for (int f = 0; f < n; f++) {
            for (int t = 0; t < n; t++) {
                if (f == t) continue;
                Ratio v = Ratio.of(rows[r][f * n + t]);
                a[t][f] = a[t][f].plus(v);
                a[f][f] = a[f][f].minus(v);
            }
        }
        // One line in the set follows from the others: the sum of all chances takes its place.
        int line = Integer.numberOfTrailingZeros(sets.get(0));
        Arrays.fill(a[line], Ratio.ONE);
        b[line] = Ratio.ONE;
        return tell(solve(a, b)[i], 1);
    }

    int parts(int r) {
        int refused = refusedChain(r);
        if (refused != 0) return refused;
        List<Integer> sets = sets(r);
        return ask(sets.get(0), sets.size());
    }

    int judge(int r, int chances) {
        if (noRow(r) || noRow(chances)) return BAD;
        if (rows[r] == null || rows[chances] == null) return find(1);
        int n = side(r);
        if (n == 0 || rows[chances].length != n) return find(5);
        if (!isChain(r)) return find(3);
        for (int v : rows[chances]) if (out(v, 0, 1000000)) return find(3);
        if (Arrays.stream(rows[chances]).allMatch(v -> v == 0)) return n;
        for (int i = 0; i < n; i++) {
            BigInteger even = BigInteger.ZERO;
            for (int j = 0; j < n; j++) {
                if (i == j) continue;
                even = even.add(BigInteger.valueOf((long) rows[chances][j] * rows[r][j * n + i]));
                even = even.subtract(BigInteger.valueOf((long) rows[chances][i] * rows[r][i * n + j]));
            }
            if (even.signum() != 0) return i;
        }
        return NONE;
    }

    // ---- 5

    private int refusedRun(int c, int come, int served) {
        if (noCounter(c) || noRow(come) || noRow(served)) return BAD;
        if (kind[c] < 0 || rows[come] == null || rows[served] == null) return find(1);
        if (rows[come].length != rows[served].length) return find(5);
        if (kind[c] != 0) return find(3);
        for (int i = 0; i < rows[come].length; i++) {
            if (out(rows[come][i], 0, 100000) || out(rows[served][i], 1, 1000)) return find(3);
            if (i > 0 && rows[come][i] < rows[come][i - 1]) return find(3);
        }
        return 0;
    }

    private int[] run(int c, int come, int served) {
        long[] free = new long[hands[c]];
        int[] waited = new int[rows[come].length];
        for (int i = 0; i < waited.length; i++) {
            int hand = 0;
            for (int h = 1; h < free.length; h++) if (free[h] < free[hand]) hand = h;
            long start = Math.max(free[hand], rows[come][i]);
            waited[i] = (int) (start - rows[come][i]);
            free[hand] = start + rows[served][i];
        }
        return waited;
    }

    int waited(int c, int come, int served, int i) {
        int refused = refusedRun(c, come, served);
        if (refused != 0) return refused;
        if (out(i, 0, rows[come].length - 1)) return find(2);
        return ask(run(c, come, served)[i], 1);
    }

    int seen(int c, int come, int served) {
        int refused = refusedRun(c, come, served);
        if (refused != 0) return refused;
        int many = rows[come].length;
        if (many == 0) return find(4);
        return tell(Ratio.of(Arrays.stream(run(c, come, served)).asLongStream().sum(), many), many);
    }

    // ---- 6

    int count(int what) {
        int many = 0;
        for (int r = 0; r < 6; r++) if (what == 0 && rows[r] != null) many++;
        for (int c = 0; c < 4; c++) {
            if (what == 1 && kind[c] >= 0) many++;
            if (what == 2 && kind[c] >= 0 && kind[c] != 3) many += hands[c];
            for (int o = 0; o < 4; o++) if (what == 3 && ways[c][o] > 0) many++;
        }
        return out(what, 0, 3) ? BAD : many;
    }

    int findings(int f) {
        return out(f, 1, 5) ? BAD : found[f];
    }

    long digest() {
        List<Integer> all = new ArrayList<>();
        for (int c = 0; c < 4; c++) {
            if (kind[c] < 0) {
                all.add(-1);
                continue;
            }
            for (int what = 0; what <= 4; what++) all.add(fact(c, what));
            if (kind[c] == 5) all.add(room[c]);
            for (int w : ways[c]) all.add(w);
        }
        for (int[] row : rows) {
            all.add(row == null ? -1 : row.length);
            if (row != null) for (int v : row) all.add(v);
        }
        long h = 17;
        for (int v : all) h = 31 * h + v;
        return h;
    }
}
