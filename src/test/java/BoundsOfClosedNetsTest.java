/** Promises 21 to 30 at their bounds: each method holds one sentence of the document. */
public final class BoundsOfClosedNetsTest {
    private static final Due DUE = new Due("BoundsOfClosedNetsTest");
    private static final int MIN = Bounds.MIN, MAX = Bounds.MAX, NONE = WaitingNets.NONE;
    private static final int[] RATES = {1, 2, 3, 4, 6, 12};

    private static final Bounds EMPTY = new Bounds(DUE, Bounds.NOTHING_LAID);

    /** COUNTERS 0, 1, 3 in a ring, alike; 2 is missing: all STATES of n things have the same chance. */
    private static final Bounds.Scene RING_LAID = x -> {
        x.counter(0, 0);
        x.counter(1, 0);
        x.counter(3, 0);
        x.way(0, 1, 4);
        x.way(1, 3, 4);
        x.way(3, 0, 4);
    };
    private static final Bounds RING = new Bounds(DUE, RING_LAID);

    /** The same with one thing that comes: not CLOSED. */
    private static final Bounds OPEN = new Bounds(DUE, x -> {
        RING_LAID.on(x);
        x.comes(3, 1);
    });

    /** A call with a COUNTER and so many things. */
    private interface Measure {
        long of(WaitingNets x, int c, int n);
    }

    private static final String[] NAMES = {"through", "meanOf", "round", "bound"};
    private static final Measure[] MEASURES = {
        (x, c, n) -> x.through(c, n), (x, c, n) -> x.meanOf(c, n), (x, c, n) -> x.round(c, n),
        (x, c, n) -> x.bound(c, n)};

    public static void main(String[] args) {
        closedWithoutCounters();
        closedByQuarters();
        closedByComes();
        closedByPaths();
        closedByKinds();
        visitsLeastAndMost();
        visitsWithoutCommonPart();
        visitsRefused();
        chanceOfEachState();
        chanceSizes();
        chanceBelow0();
        chanceOfMissing();
        chanceTogether();
        chanceOrder();
        thingsOneToFour();
        thingsNone();
        measuresOfNumbers();
        measuresOrder();
        measuresOfAlike();
        measuresOfOne();
        measuresOfOneEndless();
        narrowFirstOfAlike();
        narrowByHands();
        narrowNone();
        narrowState();
        boundTheLesser();
        bestFirstOfAlike();
        bestOfTheSlow();
        bestNone();
        bestRefused();
        balanceOfAll();
        balanceRefused();
        DUE.end();
    }

    /** A COUNTER alone, all that leaves it coming back. */
    private static Bounds alone(int c, int kind, int rate, int hands) {
        return new Bounds(DUE, x -> {
            x.counter(c, kind);
            x.rate(c, rate);
            if (kind == 0) {
                x.hands(c, hands);
            }
            x.way(c, c, 4);
        });
    }

    /** A ring of the COUNTERS of these KINDS, RATES and HANDS; KIND -1 is missing. */
    private static Bounds ring(int[] kinds, int[] rates, int... hands) {
        return new Bounds(DUE, x -> {
            int first = -1;
            int before = -1;
            for (int c = 0; c <= 3; c++) {
                if (kinds[c] < 0) {
                    continue;
                }
                x.counter(c, kinds[c]);
                x.rate(c, rates[c]);
                if (kinds[c] == 0) {
                    x.hands(c, hands[c]);
                }
                if (before >= 0) {
                    x.way(before, c, 4);
                }
                first = first < 0 ? c : first;
                before = c;
            }
            x.way(before, first, 4);
        });
    }

    // ---- 21: "Whether the net is CLOSED: 1, 0."

    /** "there is a COUNTER". */
    private static void closedWithoutCounters() {
        EMPTY.answers("no COUNTERS", 0, x -> x.closed());
        for (int c = 0; c <= 3; c++) {
            alone(c, 0, 1, 1).answers("COUNTER " + c + " alone", 1, x -> x.closed());
        }
        WaitingNets x = alone(2, 0, 1, 1).laid();
        x.drop(2);
        DUE.is("once it is missing", x.closed(), 0);
    }

    /** "nothing leaves (each COUNTER's WAYS are 4 together)". */
    private static void closedByQuarters() {
        for (int q = 0; q <= 4; q++) {
            int many = q;
            Bounds b = new Bounds(DUE, x -> {
                x.counter(1, 0);
                x.way(1, 1, many);
            });
            b.answers(q + " quarters", q == 4 ? 1 : 0, x -> x.closed());
            WaitingNets x = RING.laid();
            x.way(3, 0, q);
            DUE.is("one of three with " + q, x.closed(), q == 4 ? 1 : 0);
        }
    }

    /** "COMES are all 0". */
    private static void closedByComes() {
        RING.answers("none come", 1, x -> x.closed());
        for (int c : new int[] {0, 1, 3}) {
            for (int many : new int[] {1, 9}) {
                WaitingNets x = RING.laid();
                x.comes(c, many);
                DUE.is(many + " come to " + c, x.closed(), 0);
                x.comes(c, 0);
                DUE.is("none come to " + c, x.closed(), 1);
            }
        }
    }

    /** "all COUNTERS lead to one another". */
    private static void closedByPaths() {
        Bounds two = new Bounds(DUE, x -> {
            x.counter(0, 0);
            x.counter(3, 0);
            x.way(0, 0, 4);
            x.way(3, 3, 4);
        });
        two.answers("two alone", 0, x -> x.closed());
        WaitingNets x = two.laid();
        x.way(0, 0, 3);
        x.way(0, 3, 1);
        DUE.is("one leads to the other", x.closed(), 0);
        x.way(3, 3, 3);
        x.way(3, 0, 1);
        DUE.is("a quarter each way", x.closed(), 1);
        x = RING.laid();
        x.counter(2, 0);
        x.way(2, 2, 4);
        DUE.is("one more, alone", x.closed(), 0);
        x.way(2, 2, 3);
        x.way(2, 0, 1);
        DUE.is("one more, to which none lead", x.closed(), 0);
        x.way(0, 1, 3);
        x.way(0, 2, 1);
        DUE.is("one more, that leads back", x.closed(), 1);
    }

    /** "the net is PRODUCT". */
    private static void closedByKinds() {
        for (int kind = 0; kind <= 5; kind++) {
            alone(0, kind, 1, 1).answers("KIND " + kind, kind <= 3 ? 1 : 0, x -> x.closed());
            Bounds b = ring(new int[] {0, kind, 3, 1}, new int[] {1, 1, 1, 1}, 1, 1, 1, 1);
            b.answers("KIND " + kind + " among others", kind <= 3 ? 1 : 0, x -> x.closed());
        }
    }

    // ---- 22: "VISITS of a COUNTER. BAD; NOTHING; STATE: not CLOSED. (STATE behind NOTHING.)"

    /** "whole numbers above 0". */
    private static void visitsLeastAndMost() {
        for (int c = 0; c <= 3; c++) {
            int k = c;
            alone(c, 3, 12, 1).answers("alone " + c, 1, x -> x.visits(k));
        }
        Bounds far = new Bounds(DUE, x -> {
            for (int c = 0; c <= 3; c++) {
                x.counter(c, c);
            }
            for (int c = 0; c < 3; c++) {
                x.way(c, c + 1, 1);
                x.way(c, 0, 3);
            }
            x.way(3, 0, 4);
        });
        int[] due = {64, 16, 4, 1};
        for (int c = 0; c <= 3; c++) {
            int k = c;
            far.answers("visits " + c, due[c], x -> x.visits(k));
        }
    }

    /** "without a common part". */
    private static void visitsWithoutCommonPart() {
        for (int q = 1; q <= 4; q++) {
            int many = q;
            Bounds b = new Bounds(DUE, x -> {
                x.counter(0, 0);
                x.counter(1, 0);
                x.way(0, 1, many);
                x.way(0, 0, 4 - many);
                x.way(1, 0, 2);
                x.way(1, 1, 2);
            });
            int[][] due = {{2, 1}, {1, 1}, {2, 3}, {1, 2}};
            b.answers("visits of 0 by " + q, due[q - 1][0], x -> x.visits(0));
            b.answers("visits of 1 by " + q, due[q - 1][1], x -> x.visits(1));
        }
    }

    private static void visitsRefused() {
        EMPTY.finds("NOTHING", Due.NOTHING, x -> x.visits(0));
        OPEN.state("not CLOSED", x -> x.visits(0));
        OPEN.finds("STATE behind NOTHING", Due.NOTHING, x -> x.visits(2));
        RING.finds("NOTHING, CLOSED", Due.NOTHING, x -> x.visits(2));
        for (Bounds b : new Bounds[] {EMPTY, OPEN, RING}) {
            b.badOutside("visits", 0, 3, (x, c) -> x.visits(c));
        }
        RING.answers("visits 0", 1, x -> x.visits(0));
        RING.answers("visits 3", 1, x -> x.visits(3));
    }

    // ---- 23: "CHANCE of a STATE told by a ROW of four (of COUNTERS that are missing: 0), told by upper(),
    // lower(): how many things. BAD; STATE: not CLOSED; NOTHING: the ROW; SIZE: not four; UNLIKE: a number below
    // 0, of one that is missing, or not 1 to 4 together. (STATE behind BAD.)"

    private static Bounds told(Bounds.Scene net, int r, int... state) {
        return new Bounds(DUE, x -> {
            net.on(x);
            Bounds.row(x, r, state);
        });
    }

    private static void chanceOfEachState() {
        int[] many = {3, 6, 10, 15};
        for (int a = 0; a <= 4; a++) {
            for (int b = 0; a + b <= 4; b++) {
                for (int d = 0; a + b + d <= 4; d++) {
                    int n = a + b + d;
                    if (n > 0) {
                        told(RING_LAID, 5, a, b, 0, d).tells("state", n, 1, many[n - 1], x -> x.chance(5));
                    }
                }
            }
        }
        Bounds.Scene one = x -> {
            x.counter(3, 1);
            x.way(3, 3, 4);
        };
        for (int n = 1; n <= 4; n++) {
            int all = n;
            told(one, 0, 0, 0, 0, n).tells("all that there are", all, 1, 1, x -> x.chance(0));
        }
    }

    private static void chanceSizes() {
        for (int n = 0; n <= 40; n++) {
            if (n != 4) {
                int[] row = new int[n];
                if (n > 0) {
                    row[0] = 1;
                }
                told(RING_LAID, 0, row).finds("size " + n, Due.SIZE, x -> x.chance(0));
            }
        }
        told(RING_LAID, 0, 1, 0, 0, 0).tells("size 4", 1, 1, 3, x -> x.chance(0));
    }

    private static void chanceBelow0() {
        int[][] states = {
            {-1, 2, 0, 0}, {2, -1, 0, 0}, {1, 1, 0, -1}, {1, 1, -1, 0}, {5, -1, 0, 0}, {1, 0, 0, MIN}, {MIN, 1, 0, 0},
            {MIN, MIN, 0, 1}, {MIN, MAX, 0, 2}, {1, 0, MIN, 0}, {-1, -1, -1, -1}, {MAX, MIN, 0, 3}};
        for (int[] s : states) {
            told(RING_LAID, 0, s).finds("below 0", Due.UNLIKE, x -> x.chance(0));
        }
    }

    private static void chanceOfMissing() {
        for (int v : new int[] {1, 2, 4, 5, MAX}) {
            told(RING_LAID, 0, 0, 0, v, 0).finds("of the missing one alone", Due.UNLIKE, x -> x.chance(0));
            told(RING_LAID, 0, 1, 1, v, 1).finds("of the missing one too", Due.UNLIKE, x -> x.chance(0));
        }
        WaitingNets x = told(RING_LAID, 0, 1, 0, 1, 0).laid();
        x.counter(2, 0);
        x.way(3, 0, 3);
        x.way(3, 2, 1);
        x.way(2, 0, 4);
        DUE.is("once it is there", x.chance(0), 2);
    }

    /** "not 1 to 4 together": sums that wrap around are none either. */
    private static void chanceTogether() {
        int[][] states = {
            {0, 0, 0, 0}, {5, 0, 0, 0}, {0, 0, 0, 5}, {3, 2, 0, 0}, {2, 2, 0, 1}, {4, 4, 0, 4}, {MAX, 0, 0, 0},
            {MAX, 1, 0, 0}, {MAX, MAX, 0, 2}, {MAX, MAX, 0, 3}, {MAX, MAX, 0, 6}, {MAX, MAX, 0, MAX}};
        for (int[] s : states) {
            told(RING_LAID, 0, s).finds("together", Due.UNLIKE, x -> x.chance(0));
        }
        told(RING_LAID, 0, 0, 0, 0, 1).tells("1 together", 1, 1, 3, x -> x.chance(0));
        told(RING_LAID, 0, 2, 1, 0, 1).tells("4 together", 4, 1, 15, x -> x.chance(0));
    }

    private static void chanceOrder() {
        for (Bounds b : new Bounds[] {EMPTY, OPEN, RING}) {
            b.badOutside("BAD ahead of all", 0, 5, (x, r) -> x.chance(r));
        }
        Bounds.Scene open = x -> {
            RING_LAID.on(x);
            x.comes(0, 1);
        };
        EMPTY.state("STATE ahead of NOTHING, no COUNTERS", x -> x.chance(0));
        OPEN.state("STATE ahead of NOTHING", x -> x.chance(0));
        told(open, 0, 1, 1, 1).state("STATE ahead of SIZE", x -> x.chance(0));
        told(open, 0, 0, 0, 1, 0).state("STATE ahead of UNLIKE", x -> x.chance(0));
        told(open, 0, 1, 0, 0, 0).state("STATE", x -> x.chance(0));
        RING.finds("NOTHING", Due.NOTHING, x -> x.chance(0));
        told(RING_LAID, 0, -1, -1, -1).finds("SIZE ahead of UNLIKE", Due.SIZE, x -> x.chance(0));
        told(RING_LAID, 0, 1, 0, 0, 0, -1).finds("SIZE ahead of UNLIKE, five", Due.SIZE, x -> x.chance(0));
    }

    // ---- 24 to 30: "n things (1 .. 4)"; 24 to 26 and 28: "BAD; NOTHING; STATE. (STATE behind NOTHING.)"

    private static void thingsOneToFour() {
        for (int n = 1; n <= 4; n++) {
            int many = n;
            for (int k = 0; k < MEASURES.length; k++) {
                Measure m = MEASURES[k];
                DUE.is(NAMES[k] + " with " + n, m.of(RING.laid(), 0, n), 1);
                OPEN.state(NAMES[k] + " with " + n + ", not CLOSED", x -> m.of(x, 0, many));
                OPEN.finds(NAMES[k] + " with " + n + ", missing", Due.NOTHING, x -> m.of(x, 2, many));
            }
            OPEN.state("best with " + n + ", not CLOSED", x -> x.best(many));
            OPEN.state("balance with " + n + ", not CLOSED", x -> x.balance(many));
        }
    }

    private static void thingsNone() {
        for (Bounds b : new Bounds[] {EMPTY, OPEN, RING}) {
            for (int c : new int[] {0, 2}) {
                for (int k = 0; k < MEASURES.length; k++) {
                    Measure m = MEASURES[k];
                    b.badOutside(NAMES[k] + " of " + c, 1, 4, (x, n) -> m.of(x, c, n));
                }
            }
            b.badOutside("best", 1, 4, (x, n) -> x.best(n));
            b.badOutside("balance", 1, 4, (x, n) -> x.balance(n));
        }
    }

    private static void measuresOfNumbers() {
        for (int k = 0; k < MEASURES.length; k++) {
            Measure m = MEASURES[k];
            for (Bounds b : new Bounds[] {EMPTY, OPEN, RING}) {
                b.badOutside(NAMES[k], 0, 3, (x, c) -> m.of(x, c, 1));
                b.badOutside(NAMES[k] + " with none", 0, 3, (x, c) -> m.of(x, c, 0));
            }
            DUE.is(NAMES[k] + " of 0", m.of(RING.laid(), 0, 4), 1);
            DUE.is(NAMES[k] + " of 3", m.of(RING.laid(), 3, 4), 1);
        }
    }

    private static void measuresOrder() {
        for (int k = 0; k < MEASURES.length; k++) {
            Measure m = MEASURES[k];
            EMPTY.finds(NAMES[k] + ": STATE behind NOTHING, no COUNTERS", Due.NOTHING, x -> m.of(x, 0, 1));
            OPEN.finds(NAMES[k] + ": STATE behind NOTHING", Due.NOTHING, x -> m.of(x, 2, 4));
            RING.finds(NAMES[k] + ": NOTHING, CLOSED", Due.NOTHING, x -> m.of(x, 2, 4));
            OPEN.state(NAMES[k] + ": STATE", x -> m.of(x, 1, 4));
        }
    }

    private static void measuresOfAlike() {
        int[][] through = {{1, 3}, {1, 2}, {3, 5}, {2, 3}};
        int[][] mean = {{1, 3}, {2, 3}, {1, 1}, {4, 3}};
        int[][] round = {{3, 1}, {4, 1}, {5, 1}, {6, 1}};
        int[][] bound = {{1, 3}, {2, 3}, {1, 1}, {1, 1}};
        int[][][] due = {through, mean, round, bound};
        for (int k = 0; k < MEASURES.length; k++) {
            Measure m = MEASURES[k];
            for (int n = 1; n <= 4; n++) {
                int many = n;
                for (int c : new int[] {0, 1, 3}) {
                    RING.tells(NAMES[k] + " with " + n, 1, due[k][n - 1][0], due[k][n - 1][1], x -> m.of(x, c, many));
                }
            }
        }
    }

    /** Alone it is never without work: with 1 thing ("0 things: 1") as with more. */
    private static void measuresOfOne() {
        for (int rate : RATES) {
            for (int n = 1; n <= 4; n++) {
                int many = n;
                for (int kind = 0; kind <= 2; kind++) {
                    Bounds b = alone(2, kind, rate, 1);
                    b.tells("through " + n, 1, rate, 1, x -> x.through(2, many));
                    b.tells("meanOf " + n, 1, n, 1, x -> x.meanOf(2, many));
                    long common = PlainModel.Ratio.of(n, rate).low.longValueExact();
                    b.tells("round " + n, 1, n * common / rate, common, x -> x.round(2, many));
                    b.tells("bound " + n, 1, rate, 1, x -> x.bound(2, many));
                }
                Bounds two = alone(2, 0, rate, 2);
                int busy = Math.min(n, 2);
                two.tells("through two hands " + n, 1, busy * rate, 1, x -> x.through(2, many));
                two.tells("bound two hands " + n, 1, busy * rate, 1, x -> x.bound(2, many));
            }
        }
    }

    private static void measuresOfOneEndless() {
        for (int rate : RATES) {
            for (int n = 1; n <= 4; n++) {
                int many = n;
                Bounds b = alone(0, 3, rate, 1);
                b.tells("through " + n, 1, n * rate, 1, x -> x.through(0, many));
                b.tells("meanOf " + n, 1, n, 1, x -> x.meanOf(0, many));
                b.tells("round " + n, 1, 1, rate, x -> x.round(0, many));
                b.tells("bound " + n + ", NARROW being none", 1, n * rate, 1, x -> x.bound(0, many));
                b.answers("balance " + n, 1, x -> x.balance(many));
            }
        }
    }

    // ---- 27: "NARROW; NONE: all are ENDLESS. STATE."

    private static void narrowFirstOfAlike() {
        int[] ones = {1, 1, 1, 1};
        for (int first = 0; first <= 3; first++) {
            int[] missing = {0, 1, 2, 0};
            int[] endless = {0, 1, 2, 0};
            for (int c = 0; c < first; c++) {
                missing[c] = -1;
                endless[c] = 3;
            }
            ring(missing, ones, ones).answers("first there " + first, first, x -> x.narrow());
            ring(endless, ones, ones).answers("first not ENDLESS " + first, first, x -> x.narrow());
        }
        for (int slow = 0; slow <= 3; slow++) {
            int[] rates = {12, 12, 12, 12};
            rates[slow] = 6;
            ring(new int[] {0, 1, 2, 0}, rates, ones).answers("the slow one " + slow, slow, x -> x.narrow());
        }
    }

    /** "VISITS by RATE by HANDS": alike, a little less, a little more. */
    private static void narrowByHands() {
        int[] kinds = {0, 0, -1, -1};
        ring(kinds, new int[] {1, 2, 1, 1}, 2, 1).answers("alike: 0 is first", 0, x -> x.narrow());
        ring(kinds, new int[] {2, 1, 1, 1}, 1, 2).answers("alike: 0 is first, too", 0, x -> x.narrow());
        ring(kinds, new int[] {2, 3, 1, 1}, 2, 1).answers("3 is less than twice 2", 1, x -> x.narrow());
        ring(kinds, new int[] {1, 3, 1, 1}, 2, 1).answers("3 is more than twice 1", 0, x -> x.narrow());
        ring(kinds, new int[] {3, 2, 1, 1}, 1, 2).answers("twice 2 is more than 3", 0, x -> x.narrow());
        ring(kinds, new int[] {3, 1, 1, 1}, 1, 2).answers("twice 1 is less than 3", 1, x -> x.narrow());
        ring(kinds, new int[] {6, 6, 1, 1}, 2, 2).answers("both with two", 0, x -> x.narrow());
    }

    private static void narrowNone() {
        int[] ones = {1, 1, 1, 1};
        ring(new int[] {3, 3, 3, 3}, ones).answers("all ENDLESS", NONE, x -> x.narrow());
        ring(new int[] {-1, 3, -1, 3}, ones).answers("both ENDLESS", NONE, x -> x.narrow());
        alone(3, 3, 1, 1).answers("one ENDLESS", NONE, x -> x.narrow());
        ring(new int[] {3, 3, 3, 2}, new int[] {1, 1, 1, 12}).answers("but the last", 3, x -> x.narrow());
    }

    private static void narrowState() {
        EMPTY.state("no COUNTERS", x -> x.narrow());
        OPEN.state("not CLOSED", x -> x.narrow());
        new Bounds(DUE, x -> x.counter(0, 3)).state("STATE, all being ENDLESS", x -> x.narrow());
    }

    // ---- 28: "no more than its VISITS times n by the sum .., nor than its VISITS by those of NARROW, by that
    // RATE and HANDS: the lesser"

    private static void boundTheLesser() {
        // The sum of VISITS by RATE is 1 and a half, NARROW lets 1 through.
        Bounds b = ring(new int[] {0, 0, -1, -1}, new int[] {1, 2, 1, 1}, 1, 1);
        b.tells("one thing: by the sum", 1, 2, 3, x -> x.bound(0, 1));
        b.tells("two: by NARROW", 1, 1, 1, x -> x.bound(0, 2));
        // The sum is 2, both let 1 through: alike with two things.
        Bounds alike = ring(new int[] {0, 0, -1, -1}, new int[] {1, 1, 1, 1}, 1, 1);
        alike.tells("one", 1, 1, 2, x -> x.bound(1, 1));
        alike.tells("two: both are 1", 1, 1, 1, x -> x.bound(1, 2));
        alike.tells("three", 1, 1, 1, x -> x.bound(1, 3));
        Bounds endless = ring(new int[] {3, -1, 3, -1}, new int[] {1, 1, 12, 1});
        endless.tells("without NARROW, four", 1, 48, 13, x -> x.bound(2, 4));
    }

    // ---- 29: "BEST with n things; that THROUGH told by upper(), lower(). NONE: there is no such COUNTER. BAD;
    // STATE."

    private static void bestFirstOfAlike() {
        int[][] due = {{1, 3}, {6, 11}, {2, 3}, {66, 89}};
        for (int n = 1; n <= 4; n++) {
            int many = n;
            RING.tells("best with " + n, 0, due[n - 1][0], due[n - 1][1], x -> x.best(many));
        }
        int[] ones = {1, 1, 1, 1};
        for (int first = 0; first <= 3; first++) {
            int[] kinds = {1, 2, 3, 0};
            for (int c = first; c <= 3; c++) {
                kinds[c] = 0;
            }
            DUE.is("the first of KIND 0", ring(kinds, ones, ones).laid().best(2), first);
            int[] hands = {2, 2, 2, 1};
            for (int c = first; c <= 3; c++) {
                hands[c] = 1;
            }
            DUE.is("the first with one hand", ring(new int[] {0, 0, 0, 0}, ones, hands).laid().best(3), first);
        }
        for (int rate : RATES) {
            alone(1, 0, rate, 1).tells("alone with one thing", 1, rate, 1, x -> x.best(1));
            for (int n = 2; n <= 4; n++) {
                int many = n;
                alone(1, 0, rate, 1).tells("alone with " + n, 1, 2 * rate, 1, x -> x.best(many));
            }
        }
    }

    /** "the greatest THROUGH (of COUNTER with the least number that is there)": 0, or 1 if 0 is missing. */
    private static void bestOfTheSlow() {
        int[] ones = {1, 1, 1, 1};
        for (int slow = 0; slow <= 3; slow++) {
            int[] rates = {2, 2, 2, 2};
            rates[slow] = 1;
            DUE.is("the slow one " + slow, ring(new int[] {0, 0, 0, 0}, rates, ones).laid().best(2), slow);
        }
        for (int first = 0; first <= 2; first++) {
            int c = first;
            // Three quarters of what leaves the first come back to it: its VISITS are 4, those of the next 1.
            Bounds b = new Bounds(DUE, x -> {
                x.counter(c, 1);
                x.counter(c + 1, 0);
                x.way(c, c, 3);
                x.way(c, c + 1, 1);
                x.way(c + 1, c, 4);
            });
            b.tells("THROUGH of " + first, first + 1, 4, 5, x -> x.best(1));
        }
    }

    private static void bestNone() {
        int[] ones = {1, 1, 1, 1};
        for (int n = 1; n <= 4; n++) {
            int many = n;
            alone(0, 0, 1, 2).answers("two hands", NONE, x -> x.best(many));
            for (int kind = 1; kind <= 3; kind++) {
                alone(3, kind, 1, 1).answers("KIND " + kind, NONE, x -> x.best(many));
            }
            ring(new int[] {0, 1, 2, 3}, ones, 2, 1, 1, 1).answers("none of four", NONE, x -> x.best(many));
        }
    }

    private static void bestRefused() {
        EMPTY.state("no COUNTERS", x -> x.best(1));
        new Bounds(DUE, x -> x.counter(0, 1)).state("STATE, there being no such COUNTER", x -> x.best(4));
        OPEN.badOutside("BAD ahead of STATE", 1, 4, (x, n) -> x.best(n));
        alone(0, 1, 1, 1).badOutside("BAD ahead of NONE", 1, 4, (x, n) -> x.best(n));
    }

    // ---- 30: "how many STATES do. BAD; STATE."

    private static void balanceOfAll() {
        int[] ones = {1, 1, 1, 1};
        int[][] many = {{1, 1, 1, 1}, {2, 3, 4, 5}, {3, 6, 10, 15}, {4, 10, 20, 35}};
        for (int last = 0; last <= 3; last++) {
            int[] kinds = {0, 3, 1, 2};
            for (int c = last + 1; c <= 3; c++) {
                kinds[c] = -1;
            }
            for (int n = 1; n <= 4; n++) {
                int things = n;
                Bounds b = ring(kinds, new int[] {1, 2, 3, 12}, 2, 1, 1, 1);
                b.answers(n + " at " + (last + 1), many[last][n - 1], x -> x.balance(things));
            }
        }
        for (int gone = 0; gone <= 3; gone++) {
            int[] kinds = {0, 3, 1, 2};
            kinds[gone] = -1;
            Bounds b = ring(kinds, new int[] {6, 2, 3, 12}, ones);
            b.answers(gone + " is missing", 15, x -> x.balance(4));
        }
        ring(new int[] {0, 0, 0, 0}, ones, ones).answers("four alike", 35, x -> x.balance(4));
    }

    private static void balanceRefused() {
        EMPTY.state("no COUNTERS", x -> x.balance(1));
        OPEN.state("not CLOSED", x -> x.balance(4));
        OPEN.badOutside("BAD ahead of STATE", 1, 4, (x, n) -> x.balance(n));
    }
}
