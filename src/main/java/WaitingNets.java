/**
 * Waiting lines: nets of counters told by rates, and what can be worked out of them exactly.
 *
 * Every array is made in a constructor and used again, so that a call makes no object.
 */
public final class WaitingNets {
    public static final int BAD = -1, FULL = -2, FINDING = -3, STATE = -4, NONE = -9;

    private static final int NOTHING = 1, BEYOND = 2, UNLIKE = 3, NOUGHT = 4, SIZE = 5;
    private static final int COUNTER = 0, SHARED = 1, LAST = 2, ENDLESS = 3, RANKED = 4, ROOMED = 5;
    private static final int MISSING = -1;
    private static final int ROWS = 6, LONGEST = 40;
    private static final int COUNTERS = 4, QUARTERS = 4, MOST_COME = 9, MOST_ROOM = 6;
    private static final int LEAST_SIDE = 2, SIDE = 6, MOST_RATE = 12, MOST_PART = 1000000;
    private static final int LAST_MINUTE = 100000, LONGEST_SERVED = 1000;
    /** Every RATE goes into 12, and what a WEIGHT is divided by goes into 24. */
    private static final int RATES_MEET = 12, DIVIDERS_MEET = 24;
    private static final int MOST_THINGS = 4, MOST_STATES = 35;
    /** Euclid's steps for two longs are fewer than 100. */
    private static final int EUCLID = 200;
    /** What a judging function answers if there is nothing to refuse. */
    private static final int FINE = 0;

    private final Row[] rows = new Row[ROWS];
    private final Net net = new Net();
    private final Rounds rounds = new Rounds();
    private final Chain chain = new Chain();
    private final Line line = new Line();
    private final Fraction fraction = new Fraction();
    private final int[] answered = new int[SIZE + 1];
    private int latestFinding = 0;
    private int latestAsked = 0;

    public WaitingNets() {
        for (int r = 0; r < ROWS; r++) {
            rows[r] = new Row();
        }
    }

    // ---- 1 rows, counters, ways

    public int row(int r, int n) {
        if (!isRowNumber(r) || n > LONGEST) {
            return BAD;
        }
        if (n < 0) {
            return refuse(SIZE);
        }
        rows[r].begin(n);
        return n;
    }

    public int lay(int r, int i, int v) {
        if (!isRowNumber(r)) {
            return BAD;
        }
        if (!rows[r].isThere()) {
            return refuse(NOTHING);
        }
        if (!rows[r].has(i)) {
            return refuse(BEYOND);
        }
        latestAsked = rows[r].at(i);
        rows[r].put(i, v);
        return 1;
    }

    public int tear(int r) {
        if (!isRowNumber(r)) {
            return BAD;
        }
        if (!rows[r].isThere()) {
            return refuse(NOTHING);
        }
        rows[r].end();
        return 1;
    }

    public int copy(int r, int i, int to, int j, int n) {
        if (!isRowNumber(r) || !isRowNumber(to)) {
            return BAD;
        }
        if (n < 0) {
            return refuse(SIZE);
        }
        if (!rows[r].isThere() || !rows[to].isThere()) {
            return refuse(NOTHING);
        }
        if (!rows[r].spans(i, n) || !rows[to].spans(j, n)) {
            return refuse(BEYOND);
        }
        rows[to].take(rows[r], i, j, n);
        return 1;
    }

    public int average(int r) {
        if (!isRowNumber(r)) {
            return BAD;
        }
        if (!rows[r].isThere()) {
            return refuse(NOTHING);
        }
        int size = rows[r].size;
        if (size <= 0) {
            return refuse(NOUGHT);
        }
        latestAsked = (int) (rows[r].sum() / size);
        return 1;
    }

    public int counter(int c, int kind) {
        if (!isCounterNumber(c) || kind < COUNTER || kind > ROOMED) {
            return BAD;
        }
        int before = net.has(c) ? 1 : 0;
        net.replace(c, kind);
        return before;
    }

    public int drop(int c) {
        if (!isCounterNumber(c)) {
            return BAD;
        }
        if (!net.has(c)) {
            return refuse(NOTHING);
        }
        net.replace(c, MISSING);
        return 1;
    }

    public int rate(int c, int v) {
        if (!isCounterNumber(c) || !isRate(v)) {
            return BAD;
        }
        if (!net.has(c)) {
            return refuse(NOTHING);
        }
        int before = net.counters[c].rate;
        net.counters[c].rate = v;
        return before;
    }

    public int hands(int c, int v) {
        if (!isCounterNumber(c) || v < 1 || v > 2) {
            return BAD;
        }
        if (!net.has(c)) {
            return refuse(NOTHING);
        }
        if (net.counters[c].kind != COUNTER) {
            return refuse(UNLIKE);
        }
        int before = net.counters[c].hands;
        net.counters[c].hands = v;
        return before;
    }

    public int room(int c, int v) {
        if (!isCounterNumber(c) || v < 1 || v > MOST_ROOM) {
            return BAD;
        }
        if (!net.has(c)) {
            return refuse(NOTHING);
        }
        if (net.counters[c].kind != ROOMED) {
            return refuse(UNLIKE);
        }
        int before = net.counters[c].room;
        net.counters[c].room = v;
        return before;
    }

    public int way(int from, int to, int quarters) {
        if (!isCounterNumber(from) || !isCounterNumber(to) || quarters < 0 || quarters > QUARTERS) {
            return BAD;
        }
        if (!net.has(from) || !net.has(to)) {
            return refuse(NOTHING);
        }
        int before = net.counters[from].ways[to];
        if (net.counters[from].leaving() + before < quarters) {
            return STATE;
        }
        net.counters[from].ways[to] = quarters;
        return before;
    }

    public int comes(int c, int many) {
        if (!isCounterNumber(c) || many < 0 || many > MOST_COME) {
            return BAD;
        }
        if (!net.has(c)) {
            return refuse(NOTHING);
        }
        int before = net.counters[c].comes;
        net.counters[c].comes = many;
        return before;
    }

    public int told(int c, int what) {
        if (!isCounterNumber(c) || what < 0 || what > 4) {
            return BAD;
        }
        if (!net.has(c)) {
            return refuse(NOTHING);
        }
        latestAsked = net.counters[c].fact(what);
        return 1;
    }

    public int mark(int c, int kind) {
        if (!isCounterNumber(c) || kind <= COUNTER || kind > ROOMED) {
            return BAD;
        }
        if (!net.has(c)) {
            return refuse(NOTHING);
        }
        if (!net.counters[c].isOf(kind)) {
            return refuse(UNLIKE);
        }
        return kind == LAST ? net.leadingTo(c) : net.counters[c].markOf(kind);
    }

    public int product() {
        return net.isProduct() ? 1 : 0;
    }

    // ---- 2 open nets

    public int kept() {
        return net.keptBits();
    }

    public int flow(int c) {
        int refused = judgeFlow(c);
        if (refused != FINE) {
            return refused;
        }
        net.workOutFlow(c);
        fraction.take(net.flowThere);
        return 1;
    }

    public int use(int c) {
        int refused = judgeFlow(c);
        if (refused != FINE) {
            return refused;
        }
        net.workOutFlow(c);
        fraction.take(net.useThere);
        return net.isOverfull(c) ? 1 : 0;
    }

    public int mean(int c, boolean wait) {
        int refused = judgeFlow(c);
        if (refused != FINE) {
            return refused;
        }
        if (!net.isProduct()) {
            return STATE;
        }
        net.workOutFlow(c);
        if (net.isOverfull(c)) {
            return STATE;
        }
        Fraction flow = net.flowThere;
        if (wait && flow.upper == 0) {
            return refuse(NOUGHT);
        }
        net.workOutMean(c, fraction);
        if (wait) {
            fraction.set(fraction.upper * flow.lower, fraction.lower * flow.upper);
        }
        return 1;
    }

    // ---- 3 closed nets

    public int closed() {
        return net.isClosed() ? 1 : 0;
    }

    public int visits(int c) {
        int refused = judgeRound(c, 1);
        if (refused != FINE) {
            return refused;
        }
        rounds.load(net);
        return (int) rounds.visited[c];
    }

    public int chance(int r) {
        if (!isRowNumber(r)) {
            return BAD;
        }
        if (!net.isClosed()) {
            return STATE;
        }
        Row told = rows[r];
        if (!told.isThere()) {
            return refuse(NOTHING);
        }
        if (told.size != COUNTERS) {
            return refuse(SIZE);
        }
        int things = net.thingsOf(told);
        if (things < 1) {
            return refuse(UNLIKE);
        }
        rounds.load(net);
        rounds.tellChance(told, things, fraction);
        return things;
    }

    public int through(int c, int n) {
        int refused = judgeRound(c, n);
        if (refused != FINE) {
            return refused;
        }
        rounds.load(net);
        rounds.tellThrough(c, n, fraction);
        return 1;
    }

    public int meanOf(int c, int n) {
        int refused = judgeRound(c, n);
        if (refused != FINE) {
            return refused;
        }
        rounds.load(net);
        rounds.tellMeanOf(c, n, fraction);
        return 1;
    }

    public int round(int c, int n) {
        int refused = judgeRound(c, n);
        if (refused != FINE) {
            return refused;
        }
        rounds.load(net);
        rounds.tellThrough(c, n, fraction);
        fraction.set(n * fraction.lower, fraction.upper);
        return 1;
    }

    public int narrow() {
        if (!net.isClosed()) {
            return STATE;
        }
        rounds.load(net);
        return rounds.narrowest();
    }

    public int bound(int c, int n) {
        int refused = judgeRound(c, n);
        if (refused != FINE) {
            return refused;
        }
        rounds.load(net);
        rounds.tellBound(c, n, fraction);
        return 1;
    }

    public int best(int n) {
        if (!isThings(n)) {
            return BAD;
        }
        if (!net.isClosed()) {
            return STATE;
        }
        rounds.load(net);
        return rounds.tellBest(n, fraction);
    }

    public int balance(int n) {
        if (!isThings(n)) {
            return BAD;
        }
        if (!net.isClosed()) {
            return STATE;
        }
        rounds.load(net);
        return rounds.balanced(n);
    }

    // ---- 4 ranks, rooms, chains

    public int ranked(int c, int a, int b, boolean breaking, int which) {
        if (!isCounterNumber(c) || !isComing(a) || !isComing(b) || which < 0 || which > 1) {
            return BAD;
        }
        if (!net.has(c)) {
            return refuse(NOTHING);
        }
        if (net.counters[c].kind != RANKED) {
            return refuse(UNLIKE);
        }
        int spare = net.counters[c].rate - a - b;
        if (spare <= 0) {
            return STATE;
        }
        if (breaking) {
            tellBreakingIn(a, b, spare, which);
        } else {
            tellWaitingTurn(a, b, spare, which);
        }
        return 1;
    }

    public int roomed(int c, int a, int i) {
        if (!isCounterNumber(c) || a < 1 || a > MOST_COME || i < -1) {
            return BAD;
        }
        if (!net.has(c)) {
            return refuse(NOTHING);
        }
        Counter there = net.counters[c];
        if (there.kind != ROOMED) {
            return refuse(UNLIKE);
        }
        if (i > there.room) {
            return BAD;
        }
        long sum = 0;
        for (int k = 0; k <= there.room; k++) {
            sum += there.roomWeight(a, k);
        }
        if (i < 0) {
            fraction.set(a * there.roomWeight(a, there.room), sum);
        } else {
            fraction.set(there.roomWeight(a, i), sum);
        }
        return 1;
    }

    public int lasting(int r, int i) {
        int refused = judgeChain(r);
        if (refused != FINE) {
            return refused;
        }
        chain.load(rows[r]);
        if (i < 0 || i >= chain.size) {
            return refuse(BEYOND);
        }
        if (chain.partsThere() != 1) {
            return STATE;
        }
        chain.tellLasting(i, fraction);
        return 1;
    }

    public int parts(int r) {
        int refused = judgeChain(r);
        if (refused != FINE) {
            return refused;
        }
        chain.load(rows[r]);
        latestAsked = chain.firstPart();
        return chain.partsThere();
    }

    public int judge(int r, int chances) {
        if (!isRowNumber(r) || !isRowNumber(chances)) {
            return BAD;
        }
        Row rates = rows[r];
        Row claimed = rows[chances];
        if (!rates.isThere() || !claimed.isThere()) {
            return refuse(NOTHING);
        }
        int side = rates.side();
        if (side == 0 || claimed.size != side) {
            return refuse(SIZE);
        }
        if (!rates.holdsRates(side) || !claimed.isWithin(0, MOST_PART)) {
            return refuse(UNLIKE);
        }
        if (claimed.sum() == 0) {
            return side;
        }
        chain.load(rates);
        return chain.firstUneven(claimed);
    }

    // ---- 5 runs

    public int waited(int c, int come, int served, int i) {
        int refused = judgeRun(c, come, served);
        if (refused != FINE) {
            return refused;
        }
        if (!rows[come].has(i)) {
            return refuse(BEYOND);
        }
        line.begin(net.counters[c].hands);
        int minutes = 0;
        for (int k = 0; k <= i; k++) {
            minutes = line.serve(rows[come].at(k), rows[served].at(k));
        }
        latestAsked = minutes;
        return 1;
    }

    public int seen(int c, int come, int served) {
        int refused = judgeRun(c, come, served);
        if (refused != FINE) {
            return refused;
        }
        int many = rows[come].size;
        if (many <= 0) {
            return refuse(NOUGHT);
        }
        line.begin(net.counters[c].hands);
        long minutes = 0;
        for (int k = 0; k < many; k++) {
            minutes += line.serve(rows[come].at(k), rows[served].at(k));
        }
        fraction.set(minutes, many);
        return many;
    }

    // ---- 6 what is told

    public int asked() {
        return latestAsked;
    }

    public long upper() {
        return fraction.upper;
    }

    public long lower() {
        return fraction.lower;
    }

    public int count(int what) {
        switch (what) {
            case 0:
                return rowsThere();
            case 1:
                return Integer.bitCount(net.bitsThere());
            case 2:
                return net.handsThere();
            case 3:
                return net.waysThere();
            default:
                return BAD;
        }
    }

    public int finding() {
        return latestFinding;
    }

    public int findings(int f) {
        if (f < NOTHING || f > SIZE) {
            return BAD;
        }
        return answered[f];
    }

    public long digest() {
        long h = 17;
        for (int c = 0; c < COUNTERS; c++) {
            h = net.counters[c].mixInto(h);
        }
        for (int r = 0; r < ROWS; r++) {
            h = rows[r].mixInto(h);
        }
        return h;
    }

    // ---- what is refused

    private int refuse(int found) {
        if (found >= NOTHING && found <= SIZE) {
            latestFinding = found;
            answered[found]++;
        }
        return FINDING;
    }

    private int judgeFlow(int c) {
        if (!isCounterNumber(c)) {
            return BAD;
        }
        if (!net.has(c)) {
            return refuse(NOTHING);
        }
        return net.keptBits() != 0 ? STATE : FINE;
    }

    private int judgeRound(int c, int n) {
        if (!isCounterNumber(c) || !isThings(n)) {
            return BAD;
        }
        if (!net.has(c)) {
            return refuse(NOTHING);
        }
        return net.isClosed() ? FINE : STATE;
    }

    private int judgeChain(int r) {
        if (!isRowNumber(r)) {
            return BAD;
        }
        if (!rows[r].isThere()) {
            return refuse(NOTHING);
        }
        int side = rows[r].side();
        if (side == 0) {
            return refuse(SIZE);
        }
        return rows[r].holdsRates(side) ? FINE : refuse(UNLIKE);
    }

    private int judgeRun(int c, int come, int served) {
        if (!isCounterNumber(c) || !isRowNumber(come) || !isRowNumber(served)) {
            return BAD;
        }
        if (!net.has(c) || !rows[come].isThere() || !rows[served].isThere()) {
            return refuse(NOTHING);
        }
        if (rows[come].size != rows[served].size) {
            return refuse(SIZE);
        }
        boolean like = net.counters[c].kind == COUNTER
            && rows[come].isWithin(0, LAST_MINUTE)
            && rows[come].isRising()
            && rows[served].isWithin(1, LONGEST_SERVED);
        return like ? FINE : refuse(UNLIKE);
    }

    private static boolean isRowNumber(int r) {
        return r >= 0 && r < ROWS;
    }

    private static boolean isCounterNumber(int c) {
        return c >= 0 && c < COUNTERS;
    }

    private static boolean isRate(int v) {
        return v == 1 || v == 2 || v == 3 || v == 4 || v == 6 || v == 12;
    }

    private static boolean isComing(int many) {
        return many >= 0 && many <= MOST_COME;
    }

    private static boolean isThings(int n) {
        return n >= 1 && n <= MOST_THINGS;
    }

    // ---- what the public calls share

    private int rowsThere() {
        int many = 0;
        for (int r = 0; r < ROWS; r++) {
            if (rows[r].isThere()) {
                many++;
            }
        }
        return many;
    }

    private void tellBreakingIn(int a, int b, int spare, int which) {
        long ahead = spare + b;
        if (which == 0) {
            fraction.set(a, ahead);
        } else {
            fraction.set((a + b) * ahead - (long) a * spare, spare * ahead);
        }
    }

    private void tellWaitingTurn(int a, int b, int spare, int which) {
        long ahead = spare + b;
        long whole = ahead + a;
        if (which == 0) {
            fraction.set(a * (a + b + ahead), whole * ahead);
        } else {
            fraction.set(b * ((a + b) * whole + ahead * spare), ahead * spare * whole);
        }
    }

    /** A fraction in lowest terms, its lower number above 0. */
    private static final class Fraction {
        long upper = 0;
        long lower = 1;

        void set(long up, long low) {
            long common = commonPart(up, low);
            if (low == 0 || common == 0) {
                return;
            }
            long turned = low < 0 ? -common : common;
            upper = up / turned;
            lower = low / turned;
        }

        void take(Fraction other) {
            upper = other.upper;
            lower = other.lower;
        }

        static long commonPart(long a, long b) {
            long big = Math.abs(a);
            long small = Math.abs(b);
            for (int step = 0; step < EUCLID && small != 0; step++) {
                long rest = big % small;
                big = small;
                small = rest;
            }
            return big;
        }

        /**
         * Whether a by b is above c by d, all of them above 0. Whole parts are held against each
         * other, then the rests turned over: the products could be too great for a long.
         */
        static boolean isAbove(long a, long b, long c, long d) {
            boolean turned = false;
            for (int step = 0; step < EUCLID && b > 0 && d > 0; step++) {
                long whole = a / b;
                long otherWhole = c / d;
                if (whole != otherWhole) {
                    return turned ? whole < otherWhole : whole > otherWhole;
                }
                long rest = a - whole * b;
                long otherRest = c - otherWhole * d;
                a = b;
                b = rest;
                c = d;
                d = otherRest;
                turned = !turned;
            }
            // One rest is 0: turned over it is the greater, unless both are.
            boolean greater = b <= 0 && d > 0;
            boolean lesser = d <= 0 && b > 0;
            return turned ? lesser : greater;
        }
    }

    /** A ROW; its places are kept while it is missing. */
    private static final class Row {
        final int[] places = new int[LONGEST];
        int size = MISSING;

        boolean isThere() {
            return size >= 0;
        }

        void begin(int n) {
            size = Math.max(0, Math.min(n, LONGEST));
            for (int i = 0; i < size; i++) {
                places[i] = 0;
            }
        }

        void end() {
            size = MISSING;
        }

        boolean has(int i) {
            return i >= 0 && i < size && i < places.length;
        }

        boolean spans(int i, int n) {
            return i >= 0 && n >= 0 && (long) i + n <= size;
        }

        int at(int i) {
            return has(i) ? places[i] : 0;
        }

        void put(int i, int v) {
            if (has(i)) {
                places[i] = v;
            }
        }

        void take(Row from, int i, int j, int n) {
            if (from.spans(i, n) && spans(j, n)) {
                System.arraycopy(from.places, i, places, j, n);
            }
        }

        long sum() {
            long sum = 0;
            for (int i = 0; i < size; i++) {
                sum += at(i);
            }
            return sum;
        }

        boolean isWithin(int least, int most) {
            for (int i = 0; i < size; i++) {
                if (at(i) < least || at(i) > most) {
                    return false;
                }
            }
            return true;
        }

        boolean isRising() {
            for (int i = 1; i < size; i++) {
                if (at(i) < at(i - 1)) {
                    return false;
                }
            }
            return true;
        }

        /** How many states it has as a CHAIN; 0 if it has not the size of one. */
        int side() {
            for (int n = LEAST_SIDE; n <= SIDE; n++) {
                if (n * n == size) {
                    return n;
                }
            }
            return 0;
        }

        boolean holdsRates(int side) {
            for (int i = 0; i < side; i++) {
                for (int j = 0; j < side; j++) {
                    int rate = at(i * side + j);
                    if (i != j && (rate < 0 || rate > MOST_RATE)) {
                        return false;
                    }
                }
            }
            return true;
        }

        long mixInto(long h) {
            long mixed = 31 * h + size;
            for (int i = 0; i < size; i++) {
                mixed = 31 * mixed + at(i);
            }
            return mixed;
        }
    }

    /** A COUNTER, with the WAYS from it. */
    private static final class Counter {
        final int[] ways = new int[COUNTERS];
        int kind = MISSING;
        int rate = 1;
        int hands = 1;
        int room = 1;
        int comes = 0;

        void begin(int newKind) {
            kind = newKind;
            rate = 1;
            hands = 1;
            room = 1;
            comes = 0;
            for (int to = 0; to < COUNTERS; to++) {
                ways[to] = 0;
            }
        }

        boolean isThere() {
            return kind != MISSING;
        }

        boolean isOf(int asked) {
            return kind == asked || (asked == SHARED && (kind == LAST || kind == ENDLESS));
        }

        int leaving() {
            int left = QUARTERS;
            for (int to = 0; to < COUNTERS; to++) {
                left -= ways[to];
            }
            return left;
        }

        int fact(int what) {
            switch (what) {
                case 0:
                    return kind;
                case 1:
                    return rate;
                case 2:
                    return hands;
                case 3:
                    return comes;
                default:
                    return leaving();
            }
        }

        int markOf(int asked) {
            switch (asked) {
                case ENDLESS:
                    return daysOf();
                case RANKED:
                    return rate - 1;
                case ROOMED:
                    return room;
                default:
                    return rate;
            }
        }

        /** 12 by the RATE. */
        int daysOf() {
            return rate > 0 ? RATES_MEET / rate : 0;
        }

        /** For k things in the room, a coming in a day: a to the power of k times RATE to that of the rest. */
        long roomWeight(int a, int k) {
            long weight = 1;
            for (int i = 0; i < room; i++) {
                weight *= i < k ? a : rate;
            }
            return weight;
        }

        long mixInto(long h) {
            if (!isThere()) {
                return 31 * h + MISSING;
            }
            long mixed = h;
            for (int what = 0; what <= 4; what++) {
                mixed = 31 * mixed + fact(what);
            }
            if (kind == ROOMED) {
                mixed = 31 * mixed + room;
            }
            for (int to = 0; to < COUNTERS; to++) {
                mixed = 31 * mixed + ways[to];
            }
            return mixed;
        }
    }

    /** All COUNTERS, and what is worked out of an open net. */
    private static final class Net {
        final Counter[] counters = new Counter[COUNTERS];
        final Chain paths = new Chain();
        final Square square = new Square();
        final Fraction flowThere = new Fraction();
        final Fraction useThere = new Fraction();

        Net() {
            for (int c = 0; c < COUNTERS; c++) {
                counters[c] = new Counter();
            }
        }

        boolean has(int c) {
            return c >= 0 && c < COUNTERS && counters[c].isThere();
        }

        void replace(int c, int kind) {
            if (c < 0 || c >= COUNTERS) {
                return;
            }
            counters[c].begin(kind);
            for (int from = 0; from < COUNTERS; from++) {
                counters[from].ways[c] = 0;
            }
        }

        int bitsThere() {
            int bits = 0;
            for (int c = 0; c < COUNTERS; c++) {
                if (has(c)) {
                    bits |= 1 << c;
                }
            }
            return bits;
        }

        int handsThere() {
            int many = 0;
            for (int c = 0; c < COUNTERS; c++) {
                if (has(c) && counters[c].kind != ENDLESS) {
                    many += counters[c].hands;
                }
            }
            return many;
        }

        int waysThere() {
            int many = 0;
            for (int c = 0; c < COUNTERS; c++) {
                many += leadingTo(c);
            }
            return many;
        }

        /** From how many COUNTERS WAYS lead to c. */
        int leadingTo(int c) {
            int many = 0;
            for (int from = 0; from < COUNTERS; from++) {
                if (has(c) && counters[from].ways[c] > 0) {
                    many++;
                }
            }
            return many;
        }

        boolean isProduct() {
            for (int c = 0; c < COUNTERS; c++) {
                if (counters[c].kind == RANKED || counters[c].kind == ROOMED) {
                    return false;
                }
            }
            return true;
        }

        void loadPaths() {
            paths.size = COUNTERS;
            for (int from = 0; from < COUNTERS; from++) {
                for (int to = 0; to < COUNTERS; to++) {
                    paths.rates[from][to] = counters[from].ways[to];
                }
            }
            paths.noteLeads();
        }

        /** The COUNTERS to which some come, by bits; the paths have been loaded. */
        int bitsReached() {
            int bits = 0;
            for (int c = 0; c < COUNTERS; c++) {
                if (has(c) && counters[c].comes > 0) {
                    bits |= 1 << c;
                }
            }
            return paths.reachedFrom(bits);
        }

        int keptBits() {
            loadPaths();
            int out = 0;
            for (int c = 0; c < COUNTERS; c++) {
                if (has(c) && counters[c].leaving() > 0) {
                    out |= 1 << c;
                }
            }
            int reached = bitsReached();
            int kept = 0;
            for (int c = 0; c < COUNTERS; c++) {
                if ((reached >> c & 1) != 0 && (paths.reachedFrom(1 << c) & out) == 0) {
                    kept |= 1 << c;
                }
            }
            return kept;
        }

        /** FLOW and USE of c, where none are KEPT: the balance of flows solved by Cramer's rule. */
        void workOutFlow(int c) {
            if (!has(c)) {
                return;
            }
            loadPaths();
            int reached = bitsReached();
            long whole = flowDeterminant(reached, NONE);
            long part = flowDeterminant(reached, c);
            flowThere.set(QUARTERS * part, whole);
            Counter there = counters[c];
            useThere.set(flowThere.upper, flowThere.lower * there.rate * there.hands);
        }

        /** A COUNTER to which none come stands alone in the square, so that its WAYS can't make it 0. */
        long flowDeterminant(int reached, int replaced) {
            square.size = COUNTERS;
            for (int i = 0; i < COUNTERS; i++) {
                for (int j = 0; j < COUNTERS; j++) {
                    boolean alone = (reached >> i & 1) == 0 || (reached >> j & 1) == 0;
                    long cell = i == j ? QUARTERS : 0;
                    if (!alone) {
                        cell -= counters[i].ways[j];
                    }
                    square.cells[i][j] = i == replaced ? counters[j].comes : cell;
                }
            }
            return square.determinant();
        }

        /** Whether c is FULL, its USE being worked out. */
        boolean isOverfull(int c) {
            return has(c) && counters[c].kind != ENDLESS && useThere.upper >= useThere.lower;
        }

        /** MEAN of c, its USE being worked out. */
        void workOutMean(int c, Fraction out) {
            if (!has(c)) {
                return;
            }
            long up = useThere.upper;
            long low = useThere.lower;
            if (counters[c].kind == ENDLESS) {
                out.set(up, low);
            } else if (counters[c].hands == 2) {
                out.set(2 * up * low, low * low - up * up);
            } else {
                out.set(up, low - up);
            }
        }

        boolean isClosed() {
            int there = bitsThere();
            if (there == 0 || !isProduct()) {
                return false;
            }
            loadPaths();
            for (int c = 0; c < COUNTERS; c++) {
                if (has(c) && !isInnerOf(c, there)) {
                    return false;
                }
            }
            return true;
        }

        boolean isInnerOf(int c, int there) {
            return counters[c].comes == 0 && counters[c].leaving() == 0 && paths.reachedFrom(1 << c) == there;
        }

        /** How many things a ROW of four tells as a STATE; 0 if it tells none. */
        int thingsOf(Row told) {
            long things = 0;
            for (int c = 0; c < COUNTERS; c++) {
                if (told.at(c) < 0 || (told.at(c) > 0 && !has(c))) {
                    return 0;
                }
                things += told.at(c);
            }
            return things <= MOST_THINGS ? (int) things : 0;
        }
    }

    /** A square of whole numbers, for its determinant. */
    private static final class Square {
        final long[][] cells = new long[SIDE][SIDE];
        int size = 0;

        /** By elimination without fractions (Bareiss); the cells are used up. */
        long determinant() {
            int n = Math.min(size, SIDE);
            long sign = 1;
            long before = 1;
            for (int k = 0; k < n - 1; k++) {
                if (cells[k][k] == 0) {
                    if (!bringUp(k, n)) {
                        return 0;
                    }
                    sign = -sign;
                }
                if (before == 0) {
                    return 0;
                }
                clearBelow(k, n, before);
                before = cells[k][k];
            }
            return n > 0 ? sign * cells[n - 1][n - 1] : 1;
        }

        void clearBelow(int k, int n, long before) {
            for (int i = k + 1; i < n; i++) {
                for (int j = k + 1; j < n; j++) {
                    long crossed = cells[i][j] * cells[k][k] - cells[i][k] * cells[k][j];
                    cells[i][j] = before != 0 ? crossed / before : 0;
                }
            }
        }

        /** Changes row k for a later one that is not 0 at k. */
        boolean bringUp(int k, int n) {
            for (int i = k + 1; i < n; i++) {
                if (cells[i][k] != 0) {
                    for (int j = 0; j < n; j++) {
                        long held = cells[k][j];
                        cells[k][j] = cells[i][j];
                        cells[i][j] = held;
                    }
                    return true;
                }
            }
            return false;
        }
    }

    /** States and the rates from one to another; sets of states are bits. */
    private static final class Chain {
        final int[][] rates = new int[SIDE][SIDE];
        final int[] leads = new int[SIDE];
        final Square square = new Square();
        int size = 0;

        void load(Row row) {
            size = row.side();
            for (int i = 0; i < size; i++) {
                for (int j = 0; j < size; j++) {
                    rates[i][j] = row.at(i * size + j);
                }
            }
            noteLeads();
        }

        /** The states to which each leads at once, once the rates have been laid. */
        void noteLeads() {
            for (int i = 0; i < size; i++) {
                leads[i] = 0;
                for (int j = 0; j < size; j++) {
                    if (i != j && rates[i][j] > 0) {
                        leads[i] |= 1 << j;
                    }
                }
            }
        }

        /** The states of a set and all to which they lead. */
        int reachedFrom(int set) {
            int reached = set;
            for (int turn = 0; turn < size; turn++) {
                for (int i = 0; i < size; i++) {
                    if ((reached >> i & 1) != 0) {
                        reached |= leads[i];
                    }
                }
            }
            return reached;
        }

        /** The set that none leaves, all in it leading to one another, of which i is the least state; else 0. */
        int partOf(int i) {
            int reached = reachedFrom(1 << i);
            for (int j = 0; j < size; j++) {
                boolean inside = (reached >> j & 1) != 0;
                if (inside && (j < i || reachedFrom(1 << j) != reached)) {
                    return 0;
                }
            }
            return reached;
        }

        int partsThere() {
            int many = 0;
            for (int i = 0; i < size; i++) {
                if (partOf(i) != 0) {
                    many++;
                }
            }
            return many;
        }

        int firstPart() {
            for (int i = 0; i < size; i++) {
                int part = partOf(i);
                if (part != 0) {
                    return part;
                }
            }
            return 0;
        }

        void tellLasting(int i, Fraction out) {
            int part = firstPart();
            long sum = 0;
            for (int j = 0; j < size; j++) {
                sum += weightOf(j, part);
            }
            out.set(weightOf(i, part), sum);
        }

        /**
         * What state i of a PART weighs: the determinant of what goes less what comes, its own line
         * left out (the matrix-tree theorem: the chances are as these numbers).
         */
        long weightOf(int i, int part) {
            if ((part >> i & 1) == 0) {
                return 0;
            }
            int others = part & ~(1 << i);
            square.size = Integer.bitCount(others);
            int line = 0;
            for (int from = 0; from < size; from++) {
                if ((others >> from & 1) != 0) {
                    layLine(line, from, others);
                    line++;
                }
            }
            return square.determinant();
        }

        void layLine(int line, int from, int others) {
            int column = 0;
            for (int to = 0; to < size; to++) {
                if ((others >> to & 1) != 0) {
                    square.cells[line][column] = from == to ? going(from) : -rates[from][to];
                    column++;
                }
            }
        }

        long going(int from) {
            long sum = 0;
            for (int to = 0; to < size; to++) {
                if (to != from) {
                    sum += rates[from][to];
                }
            }
            return sum;
        }

        /** The first state to which, by the claimed chances, other than what goes comes; NONE: each is even. */
        int firstUneven(Row claimed) {
            for (int i = 0; i < size; i++) {
                long coming = 0;
                for (int from = 0; from < size; from++) {
                    if (from != i) {
                        coming += (long) claimed.at(from) * rates[from][i];
                    }
                }
                if (coming != claimed.at(i) * going(i)) {
                    return i;
                }
            }
            return NONE;
        }
    }

    /**
     * A CLOSED net and its STATES. Each WEIGHT is held as a whole number: 24 times 12 to the power
     * of the things times what the document tells.
     */
    private static final class Rounds {
        final long[] visited = new long[COUNTERS];
        final int[] kinds = new int[COUNTERS];
        final int[] rates = new int[COUNTERS];
        final int[] hands = new int[COUNTERS];
        /** VISITS by RATE, times 12; 0 of a COUNTER that is missing, so that STATES with things there weigh 0. */
        final long[] shares = new long[COUNTERS];
        final int[][] ways = new int[COUNTERS][COUNTERS];
        final int[] state = new int[COUNTERS];

        /** The net is CLOSED. */
        void load(Net net) {
            net.loadPaths();
            int there = net.bitsThere();
            long common = 0;
            for (int c = 0; c < COUNTERS; c++) {
                visited[c] = net.paths.weightOf(c, there);
                common = Fraction.commonPart(common, visited[c]);
            }
            for (int c = 0; c < COUNTERS; c++) {
                Counter counter = net.counters[c];
                visited[c] = common > 0 ? visited[c] / common : 0;
                kinds[c] = counter.kind;
                rates[c] = counter.rate;
                hands[c] = counter.hands;
                shares[c] = visited[c] * counter.daysOf();
                for (int to = 0; to < COUNTERS; to++) {
                    ways[c][to] = counter.ways[to];
                }
            }
        }

        void beginStates(int n) {
            for (int c = 0; c < COUNTERS; c++) {
                state[c] = 0;
            }
            state[0] = n;
        }

        /** Goes to the next STATE of as many things; false: there is none. */
        boolean nextState() {
            int end = COUNTERS - 1;
            for (int c = end - 1; c >= 0; c--) {
                if (state[c] > 0) {
                    int moved = state[end] + 1;
                    state[end] = 0;
                    state[c]--;
                    state[c + 1] = moved;
                    return true;
                }
            }
            return false;
        }

        long weight() {
            long weight = 1;
            long divider = 1;
            for (int c = 0; c < COUNTERS; c++) {
                for (int k = 1; k <= state[c]; k++) {
                    weight *= shares[c];
                    divider *= busy(c, k);
                }
            }
            return divider > 0 ? weight * (DIVIDERS_MEET / divider) : 0;
        }

        /** How many hands are busy with k things at c: the product of these is what a WEIGHT is divided by. */
        int busy(int c, int k) {
            return kinds[c] == ENDLESS ? k : Math.min(k, hands[c]);
        }

        long weightOfAll(int n) {
            long sum = 0;
            beginStates(n);
            boolean more = true;
            for (int turn = 0; more && turn < MOST_STATES; turn++) {
                sum += weight();
                more = nextState();
            }
            return sum;
        }

        void tellChance(Row told, int n, Fraction out) {
            long all = weightOfAll(n);
            for (int c = 0; c < COUNTERS; c++) {
                state[c] = told.at(c);
            }
            out.set(weight(), all);
        }

        void tellThrough(int c, int n, Fraction out) {
            out.set(RATES_MEET * visited[c] * weightOfAll(n - 1), weightOfAll(n));
        }

        void tellMeanOf(int c, int n, Fraction out) {
            long sum = 0;
            long things = 0;
            beginStates(n);
            boolean more = true;
            for (int turn = 0; more && turn < MOST_STATES; turn++) {
                long weight = weight();
                sum += weight;
                things += weight * state[c];
                more = nextState();
            }
            out.set(things, sum);
        }

        int narrowest() {
            int found = NONE;
            for (int c = 0; c < COUNTERS; c++) {
                boolean asked = kinds[c] != MISSING && kinds[c] != ENDLESS;
                if (asked && (found == NONE || strain(c, found) > strain(found, c))) {
                    found = c;
                }
            }
            return found;
        }

        /** VISITS by RATE and HANDS of c, times 12 and the HANDS of both. */
        long strain(int c, int other) {
            return shares[c] * hands[other];
        }

        void tellBound(int c, int n, Fraction out) {
            long sum = 0;
            for (int k = 0; k < COUNTERS; k++) {
                sum += shares[k];
            }
            long up = RATES_MEET * n * visited[c];
            int narrow = narrowest();
            if (narrow == NONE) {
                out.set(up, sum);
                return;
            }
            long narrowUp = RATES_MEET * hands[narrow] * visited[c];
            if (narrowUp * sum < up * shares[narrow]) {
                out.set(narrowUp, shares[narrow]);
            } else {
                out.set(up, sum);
            }
        }

        int tellBest(int n, Fraction out) {
            int found = NONE;
            long bestUp = 0;
            long bestLow = 1;
            for (int c = 0; c < COUNTERS; c++) {
                if (kinds[c] != COUNTER || hands[c] != 1) {
                    continue;
                }
                hands[c] = 2;
                long up = weightOfAll(n - 1);
                long low = weightOfAll(n);
                hands[c] = 1;
                if (found == NONE || Fraction.isAbove(up, low, bestUp, bestLow)) {
                    found = c;
                    bestUp = up;
                    bestLow = low;
                }
            }
            if (found != NONE) {
                out.set(RATES_MEET * visited[firstThere()] * bestUp, bestLow);
            }
            return found;
        }

        int firstThere() {
            for (int c = 0; c < COUNTERS; c++) {
                if (kinds[c] != MISSING) {
                    return c;
                }
            }
            return 0;
        }

        /** In how many STATES of n things what comes is what goes. */
        int balanced(int n) {
            int many = 0;
            beginStates(n);
            boolean more = true;
            for (int turn = 0; more && turn < MOST_STATES; turn++) {
                if (isState() && comingHere() == goingFromHere()) {
                    many++;
                }
                more = nextState();
            }
            return many;
        }

        boolean isState() {
            for (int c = 0; c < COUNTERS; c++) {
                if (state[c] > 0 && kinds[c] == MISSING) {
                    return false;
                }
            }
            return true;
        }

        /** How many things leave c in a day, as the STATE is. */
        long served(int c) {
            return (long) rates[c] * busy(c, state[c]);
        }

        long goingFromHere() {
            long sum = 0;
            for (int c = 0; c < COUNTERS; c++) {
                for (int to = 0; to < COUNTERS; to++) {
                    sum += served(c) * ways[c][to];
                }
            }
            return sum * weight();
        }

        long comingHere() {
            long sum = 0;
            for (int to = 0; to < COUNTERS; to++) {
                if (state[to] > 0) {
                    state[to]--;
                    sum += comingTo(to);
                    state[to]++;
                }
            }
            return sum;
        }

        /** What comes to c by WAYS, one thing being on its way. */
        long comingTo(int c) {
            long sum = 0;
            for (int from = 0; from < COUNTERS; from++) {
                if (ways[from][c] > 0) {
                    state[from]++;
                    sum += weight() * served(from) * ways[from][c];
                    state[from]--;
                }
            }
            return sum;
        }
    }

    /** The hands of a COUNTER in a RUN. */
    private static final class Line {
        int firstFree = 0;
        int secondFree = 0;
        boolean two = false;

        void begin(int hands) {
            firstFree = 0;
            secondFree = 0;
            two = hands == 2;
        }

        /** Serves one thing more; the minutes that it waits. */
        int serve(int come, int minutes) {
            boolean second = two && secondFree < firstFree;
            int start = Math.max(come, second ? secondFree : firstFree);
            if (second) {
                secondFree = start + minutes;
            } else {
                firstFree = start + minutes;
            }
            return start - come;
        }
    }
}
