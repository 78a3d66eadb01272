/** The Terms, and promises 38 to 44, at their bounds: each method holds one sentence of the document. */
public final class BoundsOfToldTest {
    private static final Due DUE = new Due("BoundsOfToldTest");
    private static final int MIN = Bounds.MIN, MAX = Bounds.MAX, NONE = WaitingNets.NONE;

    private static final Bounds EMPTY = new Bounds(DUE, Bounds.NOTHING_LAID);

    /** A COUNTER that keeps nothing, a CHAIN of two sets, a RUN of none. */
    private static final Bounds SOME = new Bounds(DUE, x -> {
        x.counter(0, 0);
        x.comes(0, 1);
        x.rate(0, 3);
        Bounds.row(x, 0, 0, 0, 0, 0);
        x.row(1, 0);
    });

    public static void main(String[] args) {
        constants();
        beforeAnything();
        askedByFive();
        askedNotByOthers();
        askedNotByRefused();
        toldByThirteen();
        toldNotByRefused();
        toldInLowestTerms();
        toldNoughtByOne();
        countNumbers();
        countBounds();
        countHands();
        findingLatest();
        findingsNumbers();
        findingsOnlyFindings();
        digestOfNone();
        digestOfAll();
        digestWrapsAround();
        digestOfRoom();
        lastOf512Calls();
        DUE.end();
    }

    // ---- Terms: "BAD -1 .., FULL -2, STATE -4 .., FINDING -3 ..", "NONE -9"

    private static void constants() {
        DUE.is("BAD", WaitingNets.BAD, -1);
        DUE.is("FULL", WaitingNets.FULL, -2);
        DUE.is("FINDING", WaitingNets.FINDING, -3);
        DUE.is("STATE", WaitingNets.STATE, -4);
        DUE.is("NONE", WaitingNets.NONE, -9);
    }

    // ---- 38 to 43: "0 before", "0 before", "1 before", "0 before any"

    private static void beforeAnything() {
        WaitingNets x = new WaitingNets();
        for (int turn = 0; turn < 2; turn++) {
            DUE.is("asked() before", x.asked(), 0);
            DUE.is("upper() before", x.upper(), 0);
            DUE.is("lower() before", x.lower(), 1);
            DUE.is("finding() before", x.finding(), 0);
            for (int f = 1; f <= 5; f++) {
                DUE.is("findings(" + f + ") before", x.findings(f), 0);
            }
            // What is BAD or STATE leaves all of it as it was.
            DUE.is("BAD", x.lay(6, 0, 1), WaitingNets.BAD);
            DUE.is("STATE", x.chance(0), WaitingNets.STATE);
        }
        DUE.is("NOTHING", x.flow(0), WaitingNets.FINDING);
        DUE.is("upper() before a fraction", x.upper(), 0);
        DUE.is("lower() before a fraction", x.lower(), 1);
        DUE.is("asked() before a number", x.asked(), 0);
    }

    // ---- 38: "What the latest lay(), average(), told(), parts(), waited() that was not refused told"

    private static void askedByFive() {
        WaitingNets x = new WaitingNets();
        x.counter(0, 0);
        x.rate(0, 4);
        x.row(0, 1);
        x.lay(0, 0, 12);
        DUE.asks("lay", x, x.lay(0, 0, 11), 1, 12);
        DUE.asks("average", x, x.average(0), 1, 11);
        DUE.asks("told", x, x.told(0, 1), 1, 4);
        Due.lay(x, 1, 0, 1, 1, 0);
        DUE.asks("parts", x, x.parts(1), 1, 3);
        Due.lay(x, 2, 9, 9);
        DUE.asks("waited", x, x.waited(0, 2, 2, 1), 1, 9);
        DUE.asks("told 0 behind it", x, x.told(0, 0), 1, 0);
        x.lay(0, 0, MIN);
        DUE.asks("the smallest int", x, x.average(0), 1, MIN);
        x.lay(0, 0, MAX);
        DUE.asks("the largest int", x, x.average(0), 1, MAX);
    }

    private static void askedNotByOthers() {
        SOME.answers("row", 3, x -> x.row(2, 3));
        SOME.answers("copy", 1, x -> x.copy(0, 0, 0, 1, 2));
        SOME.answers("tear", 1, x -> x.tear(0));
        SOME.answers("rate", 3, x -> x.rate(0, 12));
        SOME.answers("hands", 1, x -> x.hands(0, 2));
        SOME.answers("way", 0, x -> x.way(0, 0, 1));
        SOME.answers("comes", 1, x -> x.comes(0, 2));
        SOME.answers("product", 1, x -> x.product());
        SOME.answers("kept", 0, x -> x.kept());
        SOME.answers("closed", 0, x -> x.closed());
        SOME.answers("judge", 2, x -> {
            x.row(1, 2);
            return x.judge(0, 1);
        });
        SOME.answers("count", 2, x -> x.count(0));
        SOME.answers("finding", Due.NOUGHT, x -> x.finding());
        SOME.answers("findings", 1, x -> x.findings(Due.NOUGHT));
        SOME.tells("flow", 1, 1, 1, x -> x.flow(0));
        SOME.tells("use", 0, 1, 3, x -> x.use(0));
        SOME.tells("mean", 1, 1, 2, x -> x.mean(0, false));
    }

    private static void askedNotByRefused() {
        SOME.finds("lay", Due.BEYOND, x -> x.lay(0, 4, 1));
        SOME.finds("average", Due.NOUGHT, x -> x.average(1));
        SOME.finds("told", Due.NOTHING, x -> x.told(1, 0));
        SOME.finds("parts", Due.SIZE, x -> x.parts(1));
        SOME.finds("waited", Due.BEYOND, x -> x.waited(0, 1, 1, 0));
    }

    // ---- 39, 40: "The upper number of the fraction that was told last"

    /** Each call that tells one, behind a fraction of another call. */
    private static void toldByThirteen() {
        WaitingNets x = new WaitingNets();
        x.counter(0, 0);
        x.rate(0, 4);
        x.comes(0, 3);
        x.counter(1, 4);
        x.rate(1, 12);
        x.counter(2, 5);
        DUE.tells("flow", x, x.flow(0), 1, 3, 1);
        DUE.tells("use", x, x.use(0), 0, 3, 4);
        DUE.tells("ranked", x, x.ranked(1, 3, 8, false, 0), 1, 5, 9);
        DUE.tells("roomed", x, x.roomed(2, 2, 0), 1, 1, 3);
        x.drop(1);
        x.drop(2);
        DUE.tells("mean", x, x.mean(0, false), 1, 3, 1);
        x.comes(0, 0);
        x.way(0, 0, 4);
        DUE.tells("through", x, x.through(0, 2), 1, 4, 1);
        DUE.tells("meanOf", x, x.meanOf(0, 3), 1, 3, 1);
        DUE.tells("round", x, x.round(0, 3), 1, 3, 4);
        DUE.tells("bound", x, x.bound(0, 4), 1, 4, 1);
        DUE.tells("best", x, x.best(2), 0, 8, 1);
        Due.lay(x, 0, 2, 0, 0, 0);
        DUE.tells("chance", x, x.chance(0), 2, 1, 1);
        Due.lay(x, 0, 0, 1, 2, 0);
        DUE.tells("lasting", x, x.lasting(0, 0), 1, 2, 3);
        Due.lay(x, 0, 1, 1, 1);
        DUE.tells("seen", x, x.seen(0, 0, 0), 3, 1, 1);
        x.hands(0, 2);
        DUE.tells("best: NONE tells none", x, x.best(2), NONE, 1, 1);
    }

    private static void toldNotByRefused() {
        SOME.finds("flow", Due.NOTHING, x -> x.flow(1));
        SOME.finds("use", Due.NOTHING, x -> x.use(1));
        SOME.finds("mean", Due.NOTHING, x -> x.mean(1, true));
        SOME.state("chance", x -> x.chance(0));
        SOME.state("through", x -> x.through(0, 1));
        SOME.state("meanOf", x -> x.meanOf(0, 1));
        SOME.state("round", x -> x.round(0, 1));
        SOME.state("bound", x -> x.bound(0, 1));
        SOME.state("best", x -> x.best(1));
        SOME.finds("ranked", Due.UNLIKE, x -> x.ranked(0, 0, 0, true, 0));
        SOME.finds("roomed", Due.UNLIKE, x -> x.roomed(0, 1, 0));
        SOME.state("lasting", x -> x.lasting(0, 0));
        SOME.finds("seen", Due.NOUGHT, x -> x.seen(0, 1, 1));
    }

    // ---- Terms: "in lowest terms, the lower number above 0 (0 by 1)"

    private static void toldInLowestTerms() {
        for (int come = 1; come <= 9; come++) {
            for (int rate : new int[] {1, 2, 3, 4, 6, 12}) {
                WaitingNets x = new WaitingNets();
                x.counter(0, 3);
                x.rate(0, rate);
                x.comes(0, come);
                int common = 1;
                for (int k = 2; k <= 9; k++) {
                    common = come % k == 0 && rate % k == 0 ? k : common;
                }
                DUE.tells(come + " by " + rate, x, x.use(0), 0, come / common, rate / common);
            }
        }
    }

    private static void toldNoughtByOne() {
        Bounds none = new Bounds(DUE, x -> {
            x.counter(0, 0);
            x.rate(0, 12);
            Bounds.row(x, 0, 3);
            Bounds.row(x, 1, 0, 0, 0, 5, 0, 0, 5, 0, 0);
        });
        none.tells("flow", 1, 0, 1, x -> x.flow(0));
        none.tells("use", 0, 0, 1, x -> x.use(0));
        none.tells("mean", 1, 0, 1, x -> x.mean(0, false));
        none.tells("seen", 1, 0, 1, x -> x.seen(0, 0, 0));
        none.tells("lasting", 1, 1, 1, x -> x.lasting(1, 0));
        none.tells("lasting 0", 1, 0, 1, x -> x.lasting(1, 1));
        Bounds ranked = new Bounds(DUE, x -> {
            x.counter(0, 4);
            x.rate(0, 12);
        });
        for (boolean breaking : new boolean[] {true, false}) {
            ranked.tells("none of the first", 1, 0, 1, x -> x.ranked(0, 0, 7, breaking, 0));
            ranked.tells("none of the second", 1, 0, 1, x -> x.ranked(0, 7, 0, breaking, 1));
            ranked.tells("none of either", 1, 0, 1, x -> x.ranked(0, 0, 0, breaking, 1));
        }
    }

    // ---- 41: "0 ROWS, 1 COUNTERS that are there, 2 all hands (ENDLESS aside), 3 WAYS above 0. BAD."

    private static void countNumbers() {
        for (Bounds b : new Bounds[] {EMPTY, SOME}) {
            b.badOutside("count", 0, 3, (x, what) -> x.count(what));
        }
        SOME.answers("ROWS", 2, x -> x.count(0));
        SOME.answers("COUNTERS", 1, x -> x.count(1));
        SOME.answers("hands", 1, x -> x.count(2));
        SOME.answers("WAYS", 0, x -> x.count(3));
    }

    private static void countBounds() {
        WaitingNets x = new WaitingNets();
        for (int r = 0; r <= 5; r++) {
            DUE.is("ROWS", x.count(0), r);
            x.row(r, r == 0 ? 0 : 40);
        }
        DUE.is("six ROWS", x.count(0), 6);
        x.row(3, 1);
        DUE.is("six ROWS, one anew", x.count(0), 6);
        for (int c = 0; c <= 3; c++) {
            DUE.is("COUNTERS", x.count(1), c);
            x.counter(c, c + 2);
        }
        DUE.is("four COUNTERS", x.count(1), 4);
        x.counter(3, 0);
        DUE.is("four COUNTERS, one anew", x.count(1), 4);
        for (int k = 0; k < 16; k++) {
            DUE.is("WAYS", x.count(3), k);
            x.way(k / 4, k % 4, 1);
        }
        DUE.is("sixteen WAYS", x.count(3), 16);
        x.way(2, 2, 0);
        DUE.is("0 quarters are no WAY", x.count(3), 15);
        x.drop(0);
        DUE.is("seven WAYS are gone", x.count(3), 8);
        x.counter(3, 0);
        DUE.is("those of one anew are gone", x.count(3), 3);
    }

    private static void countHands() {
        WaitingNets x = new WaitingNets();
        for (int c = 0; c <= 3; c++) {
            x.counter(c, 0);
            x.hands(c, 2);
            DUE.is("two each", x.count(2), 2 * c + 2);
        }
        int[] hands = {1, 1, 1, 0, 1, 1};
        for (int kind = 0; kind <= 5; kind++) {
            x.counter(1, kind);
            DUE.is("one of KIND " + kind, x.count(2), 6 + hands[kind]);
        }
        for (int c = 0; c <= 3; c++) {
            x.counter(c, 3);
        }
        DUE.is("ENDLESS aside", x.count(2), 0);
    }

    // ---- 42: "The latest FINDING (0 before any)."

    private static void findingLatest() {
        SOME.finds("NOTHING", 1, x -> x.tear(2));
        SOME.finds("BEYOND", 2, x -> x.lay(0, 4, 0));
        SOME.finds("UNLIKE", 3, x -> x.room(0, 1));
        SOME.finds("NOUGHT", 4, x -> x.average(1));
        SOME.finds("SIZE", 5, x -> x.row(0, -1));
        WaitingNets x = SOME.laid();
        x.row(0, -1);
        x.tear(2);
        DUE.is("the latest of two", x.finding(), Due.NOTHING);
        x.tear(0);
        DUE.is("not by what is answered", x.finding(), Due.NOTHING);
        x.tear(6);
        x.best(1);
        DUE.is("not by BAD, STATE", x.finding(), Due.NOTHING);
    }

    // ---- 43: "How often a FINDING (1 .. 5) was answered. BAD."

    private static void findingsNumbers() {
        for (Bounds b : new Bounds[] {EMPTY, SOME}) {
            b.badOutside("findings", 1, 5, (x, f) -> x.findings(f));
        }
        WaitingNets x = new WaitingNets();
        x.row(0, 0);
        x.counter(0, 1);
        for (int k = 0; k < 50; k++) {
            DUE.is("NOTHING", x.findings(1), k);
            DUE.is("BEYOND", x.findings(2), k);
            DUE.is("UNLIKE", x.findings(3), k);
            DUE.is("NOUGHT", x.findings(4), k);
            DUE.is("SIZE", x.findings(5), k);
            x.tear(1);
            x.lay(0, 0, 0);
            x.hands(0, 1);
            x.average(0);
            x.row(0, -1);
        }
    }

    private static void findingsOnlyFindings() {
        WaitingNets x = SOME.laid();
        x.count(-1);
        x.findings(0);
        x.findings(6);
        x.row(0, 41);
        x.through(0, 1);
        x.lasting(0, 0);
        x.narrow();
        for (int f = 1; f <= 5; f++) {
            DUE.is("findings(" + f + ")", x.findings(f), f == Due.NOUGHT ? 1 : 0);
        }
    }

    // ---- 44: "h = 17; then h = 31 h + v for each v: .."

    private static long mixed(long... numbers) {
        long h = 17;
        for (long v : numbers) {
            h = 31 * h + v;
        }
        return h;
    }

    private static void digestOfNone() {
        DUE.is("of a new one", new WaitingNets().digest(), mixed(-1, -1, -1, -1, -1, -1, -1, -1, -1, -1));
        DUE.is("of one that had something", EMPTY.laid().digest(), new WaitingNets().digest());
    }

    /** All four COUNTERS, all six ROWS. */
    private static void digestOfAll() {
        WaitingNets x = new WaitingNets();
        x.counter(0, 0);
        x.hands(0, 2);
        x.counter(1, 3);
        x.rate(1, 12);
        x.counter(2, 5);
        x.room(2, 6);
        x.comes(2, 9);
        x.counter(3, 4);
        x.way(0, 3, 4);
        x.way(3, 0, 1);
        x.way(3, 2, 2);
        for (int r = 0; r <= 5; r++) {
            x.row(r, r == 5 ? 2 : 0);
        }
        x.lay(5, 0, MIN);
        x.lay(5, 1, MAX);
        DUE.is("of all", x.digest(), mixed(
            0, 1, 2, 0, 0, 0, 0, 0, 4,
            3, 12, 1, 0, 4, 0, 0, 0, 0,
            5, 1, 1, 9, 4, 6, 0, 0, 0, 0,
            4, 1, 1, 0, 1, 1, 0, 2, 0,
            0, 0, 0, 0, 0, 2, MIN, MAX));
    }

    /** Forty greatest and forty smallest numbers pass what a long holds many times over. */
    private static void digestWrapsAround() {
        for (int v : new int[] {MIN, MAX, -1}) {
            WaitingNets x = new WaitingNets();
            Due.lay(x, 0, Bounds.alike(40, v));
            Due.lay(x, 5, Bounds.alike(40, v));
            long[] numbers = new long[4 + 41 + 4 + 41];
            java.util.Arrays.fill(numbers, -1);
            for (int k = 0; k < 41; k++) {
                numbers[4 + k] = k == 0 ? 40 : v;
                numbers[49 + k] = k == 0 ? 40 : v;
            }
            DUE.is("forty times " + v, x.digest(), mixed(numbers));
        }
    }

    /** "of a ROOMED one its room": of no other. */
    private static void digestOfRoom() {
        for (int kind = 0; kind <= 5; kind++) {
            WaitingNets x = new WaitingNets();
            x.counter(3, kind);
            long due = kind == 5
                ? mixed(-1, -1, -1, 5, 1, 1, 0, 4, 1, 0, 0, 0, 0, -1, -1, -1, -1, -1, -1)
                : mixed(-1, -1, -1, kind, 1, 1, 0, 4, 0, 0, 0, 0, -1, -1, -1, -1, -1, -1);
            DUE.is("KIND " + kind, x.digest(), due);
        }
    }

    /** "An object is used for at most 512 calls after it has been made": the last is answered as the first. */
    private static void lastOf512Calls() {
        WaitingNets x = new WaitingNets();
        DUE.is("call 1", x.row(0, 1), 1);
        for (int k = 2; k < 512; k += 2) {
            DUE.asks("calls " + k + " and the next", x, x.lay(0, 0, k), 1, k - 2);
        }
        DUE.is("call 512", x.lay(0, 0, 0), 1);
        WaitingNets y = new WaitingNets();
        for (int k = 1; k < 512; k++) {
            DUE.is("call " + k, y.tear(5), WaitingNets.FINDING);
        }
        DUE.is("call 512", y.findings(Due.NOTHING), 511);
    }
}
