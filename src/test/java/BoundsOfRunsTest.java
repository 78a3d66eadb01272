/** Promises 36 and 37 at their bounds: each method holds one sentence of the document. */
public final class BoundsOfRunsTest {
    private static final Due DUE = new Due("BoundsOfRunsTest");
    private static final int MIN = Bounds.MIN, MAX = Bounds.MAX;
    private static final int LAST_MINUTE = 100000, LONGEST = 1000;

    private static final Bounds EMPTY = new Bounds(DUE, Bounds.NOTHING_LAID);

    public static void main(String[] args) {
        numbers();
        nothing();
        asManyAsDue();
        minutesTold();
        minutesServed();
        noneLessThanTheOneAhead();
        kinds();
        things();
        noneSeen();
        waitedOrder();
        seenOrder();
        freeJustThen();
        handZeroAhead();
        longRuns();
        oneRowForBoth();
        runsAgain();
        DUE.end();
    }

    /** COUNTER 2 of a KIND, ROWS 0 (when each comes) and 1 (how long it is served). */
    private static Bounds run(int kind, int hands, int[] come, int... served) {
        return new Bounds(DUE, x -> {
            x.counter(2, kind);
            if (kind == 0) {
                x.hands(2, hands);
            }
            Bounds.row(x, 0, come);
            Bounds.row(x, 1, served);
        });
    }

    private static int[] of(int... numbers) {
        return numbers;
    }

    private static int[] with(int[] numbers, int place, int number) {
        int[] changed = numbers.clone();
        changed[place] = number;
        return changed;
    }

    private static void unlike(String text, Bounds b) {
        b.finds("waited: " + text, Due.UNLIKE, x -> x.waited(2, 0, 1, 0));
        b.finds("seen: " + text, Due.UNLIKE, x -> x.seen(2, 0, 1));
    }

    private static void waits(String text, int kindHands, int[] come, int[] served, int... due) {
        Bounds b = run(0, kindHands, come, served);
        long sum = 0;
        for (int i = 0; i < due.length; i++) {
            int thing = i;
            b.asks(text + ", thing " + i, 1, due[i], x -> x.waited(2, 0, 1, thing));
            sum += due[i];
        }
        PlainModel.Ratio mean = PlainModel.Ratio.of(sum, due.length);
        b.tells(text + ", seen", due.length, mean.up.longValueExact(), mean.low.longValueExact(), x -> x.seen(2, 0, 1));
    }

    // ---- "BAD", of both

    private static void numbers() {
        Bounds[] scenes = {EMPTY, run(0, 1, of(0), 1), run(4, 1, of(0), 1), run(0, 1, of(), 1)};
        for (Bounds b : scenes) {
            for (int i : new int[] {0, 1, -1}) {
                b.badOutside("waited c", 0, 3, (x, c) -> x.waited(c, 0, 1, i));
                b.badOutside("waited come", 0, 5, (x, r) -> x.waited(2, r, 1, i));
                b.badOutside("waited served", 0, 5, (x, r) -> x.waited(2, 0, r, i));
            }
            b.badOutside("seen c", 0, 3, (x, c) -> x.seen(c, 0, 1));
            b.badOutside("seen come", 0, 5, (x, r) -> x.seen(2, r, 1));
            b.badOutside("seen served", 0, 5, (x, r) -> x.seen(2, 0, r));
        }
        for (int c : new int[] {0, 3}) {
            Bounds b = new Bounds(DUE, x -> {
                x.counter(c, 0);
                Bounds.row(x, 0, 4, 4);
                Bounds.row(x, 5, 3, 9);
            });
            b.asks("waited at " + c, 1, 3, x -> x.waited(c, 0, 5, 1));
            b.tells("seen at " + c, 2, 3, 2, x -> x.seen(c, 0, 5));
        }
    }

    // ---- "NOTHING: the COUNTER, a ROW"

    private static void nothing() {
        EMPTY.finds("waited: all", Due.NOTHING, x -> x.waited(2, 0, 1, 0));
        EMPTY.finds("seen: all", Due.NOTHING, x -> x.seen(2, 0, 1));
        for (Bounds b : new Bounds[] {run(0, 1, of(0), 1), run(3, 1, of(5, 4), 0), run(0, 1, of())}) {
            b.finds("waited: the COUNTER", Due.NOTHING, x -> x.waited(1, 0, 1, 0));
            b.finds("waited: come", Due.NOTHING, x -> x.waited(2, 5, 1, 0));
            b.finds("waited: served", Due.NOTHING, x -> x.waited(2, 0, 5, 0));
            b.finds("waited: both ROWS", Due.NOTHING, x -> x.waited(2, 5, 5, -1));
            b.finds("seen: the COUNTER", Due.NOTHING, x -> x.seen(1, 0, 1));
            b.finds("seen: come", Due.NOTHING, x -> x.seen(2, 5, 1));
            b.finds("seen: served", Due.NOTHING, x -> x.seen(2, 0, 5));
        }
    }

    // ---- "two ROWS as long"; "SIZE: not as many"

    private static void asManyAsDue() {
        for (int n = 0; n <= 40; n += n < 3 || n > 37 ? 1 : 35) {
            for (int other : new int[] {n - 1, n + 1, 0, 40}) {
                if (other < 0 || other > 40 || other == n) {
                    continue;
                }
                Bounds b = run(0, 1, Bounds.alike(n, 7), Bounds.alike(other, 7));
                b.finds("waited: " + n + " and " + other, Due.SIZE, x -> x.waited(2, 0, 1, 0));
                b.finds("seen: " + n + " and " + other, Due.SIZE, x -> x.seen(2, 0, 1));
            }
            if (n > 0) {
                int many = n;
                run(0, 1, Bounds.alike(n, 7), Bounds.alike(n, 1))
                    .asks("waited: as many", 1, n - 1, x -> x.waited(2, 0, 1, many - 1));
            }
        }
    }

    // ---- "at what minute each thing comes (none less than the one ahead; 0 .. 100000)"

    private static void minutesTold() {
        int[] come = {0, 0, 50000, LAST_MINUTE, LAST_MINUTE};
        int[] served = {1, 1, 1, 1, 1};
        waits("minutes 0 and 100000", 1, come, served, 0, 1, 0, 0, 1);
        for (int v : new int[] {-1, MIN}) {
            for (int place = 0; place < come.length; place++) {
                unlike("minute " + v, run(0, 1, with(come, place, v), served));
            }
        }
        for (int v : new int[] {LAST_MINUTE + 1, MAX}) {
            for (int place = 0; place < come.length; place++) {
                unlike("minute " + v, run(0, 1, with(come, place, v), served));
            }
            unlike("minute " + v + " alone", run(0, 1, of(v), 1));
        }
        unlike("minute -1 alone", run(0, 1, of(-1), 1));
        waits("0 alone", 1, of(0), of(1), 0);
        waits("100000 alone", 1, of(LAST_MINUTE), of(1), 0);
    }

    // ---- "how many minutes it is served (1 .. 1000)"

    private static void minutesServed() {
        int[] come = {0, 0, 0, 5000};
        int[] served = {1, LONGEST, 1, LONGEST};
        waits("served 1 and 1000", 1, come, served, 0, 1, 1001, 0);
        for (int v : Bounds.outside(1, LONGEST)) {
            for (int place = 0; place < come.length; place++) {
                unlike("served " + v, run(0, 1, come, with(served, place, v)));
            }
        }
    }

    // ---- "or less than the one ahead"

    private static void noneLessThanTheOneAhead() {
        int[] come = Bounds.alike(40, 50);
        int[] served = Bounds.alike(40, 1);
        run(0, 2, come, served).asks("all as one", 1, 19, x -> x.waited(2, 0, 1, 39));
        for (int place : new int[] {1, 2, 20, 39}) {
            unlike("one less at " + place, run(0, 1, with(come, place, 49), served));
            unlike("much less at " + place, run(0, 1, with(come, place, 0), served));
        }
        for (int place : new int[] {0, 1, 38}) {
            unlike("one more at " + place, run(0, 1, with(come, place, 51), served));
        }
        DUE.is("one less at the first", run(0, 1, with(come, 0, 49), served).laid().seen(2, 0, 1), 40);
        DUE.is("one more at the last", run(0, 1, with(come, 39, 51), served).laid().seen(2, 0, 1), 40);
        waits("served may be less than the one ahead", 1, of(0, 9), of(5, 4), 0, 0);
    }

    // ---- "UNLIKE: KIND not 0"

    private static void kinds() {
        for (int kind = 1; kind <= 5; kind++) {
            unlike("KIND " + kind, run(kind, 1, of(3, 4), 1, 1));
            unlike("KIND " + kind + ", none", run(kind, 1, of()));
        }
        waits("KIND 0", 1, of(3, 4), of(1, 1), 0, 0);
        waits("KIND 0, two hands", 2, of(3, 4), of(1, 1), 0, 0);
    }

    // ---- 36: "BEYOND: i."

    private static void things() {
        for (int n : new int[] {1, 2, 40}) {
            Bounds b = run(0, 1, Bounds.alike(n, 9), Bounds.alike(n, 3));
            b.asks("thing 0 of " + n, 1, 0, x -> x.waited(2, 0, 1, 0));
            b.asks("the last of " + n, 1, 3 * (n - 1), x -> x.waited(2, 0, 1, n - 1));
            b.findsOutside("of " + n, Due.BEYOND, 0, n - 1, (x, i) -> x.waited(2, 0, 1, i));
        }
        run(0, 1, of()).findsOutside("of none", Due.BEYOND, 0, -1, (x, i) -> x.waited(2, 0, 1, i));
    }

    // ---- 37: "SEEN, told by upper(), lower(): how many things. .. NOUGHT: none."

    private static void noneSeen() {
        run(0, 1, of()).finds("none", Due.NOUGHT, x -> x.seen(2, 0, 1));
        run(0, 2, of()).finds("none, one ROW for both", Due.NOUGHT, x -> x.seen(2, 0, 0));
        run(0, 1, of(7), 9).tells("one", 1, 0, 1, x -> x.seen(2, 0, 1));
        run(0, 1, Bounds.alike(40, 7), Bounds.alike(40, 1)).tells("forty", 40, 39, 2, x -> x.seen(2, 0, 1));
    }

    private static void waitedOrder() {
        int[] wrong = {-1, 13, MAX, MIN};
        for (int i : wrong) {
            run(4, 1, of(-1), 0, 0).finds("SIZE ahead of UNLIKE: KIND", Due.SIZE, x -> x.waited(2, 0, 1, i));
            run(0, 1, of(5, 4), 0).finds("SIZE ahead of UNLIKE: a number", Due.SIZE, x -> x.waited(2, 0, 1, i));
            run(0, 1, of(5, 4, 6), 1, 1).finds("SIZE ahead of UNLIKE: less", Due.SIZE, x -> x.waited(2, 0, 1, i));
            run(1, 1, of(1), 1).finds("UNLIKE ahead of BEYOND: KIND", Due.UNLIKE, x -> x.waited(2, 0, 1, i));
            run(0, 1, of(-1), 1).finds("UNLIKE ahead of BEYOND: come", Due.UNLIKE, x -> x.waited(2, 0, 1, i));
            run(0, 1, of(1), 0).finds("UNLIKE ahead of BEYOND: served", Due.UNLIKE, x -> x.waited(2, 0, 1, i));
            run(0, 1, of(1, 0), 1, 1).finds("UNLIKE ahead of BEYOND: less", Due.UNLIKE, x -> x.waited(2, 0, 1, i));
            EMPTY.finds("NOTHING ahead of BEYOND", Due.NOTHING, x -> x.waited(2, 0, 1, i));
        }
        // The whole RUN is judged, not only what is ahead of thing i.
        run(0, 1, of(1, 2, 1), 1, 1, 1).finds("behind i: less", Due.UNLIKE, x -> x.waited(2, 0, 1, 0));
        run(0, 1, of(1, 2, 3), 1, 1, 0).finds("behind i: served", Due.UNLIKE, x -> x.waited(2, 0, 1, 0));
    }

    private static void seenOrder() {
        run(4, 1, of(-1), 0, 0).finds("SIZE ahead of UNLIKE: KIND", Due.SIZE, x -> x.seen(2, 0, 1));
        run(0, 1, of(5, 4), 0).finds("SIZE ahead of UNLIKE: a number", Due.SIZE, x -> x.seen(2, 0, 1));
        run(0, 1, of(), 1).finds("SIZE ahead of NOUGHT", Due.SIZE, x -> x.seen(2, 0, 1));
        for (int kind = 1; kind <= 5; kind++) {
            run(kind, 1, of()).finds("UNLIKE ahead of NOUGHT", Due.UNLIKE, x -> x.seen(2, 0, 1));
        }
        run(0, 1, of()).finds("NOTHING ahead of NOUGHT", Due.NOTHING, x -> x.seen(3, 0, 1));
    }

    // ---- "each goes to the hand that is free first (hand 0 ahead), as it comes or as that is free"

    private static void freeJustThen() {
        waits("free a minute before", 1, of(0, 6), of(5, 1), 0, 0);
        waits("free just then", 1, of(0, 5), of(5, 1), 0, 0);
        waits("free a minute behind", 1, of(0, 4), of(5, 1), 0, 1);
        waits("two hands: free just then", 2, of(0, 0, 5), of(5, 7, 1), 0, 0, 0);
        waits("two hands: free a minute behind", 2, of(0, 0, 4), of(5, 7, 1), 0, 0, 1);
    }

    private static void handZeroAhead() {
        waits("both free", 2, of(0, 0, 0, 0), of(9, 2, 3, 9), 0, 0, 2, 5);
        waits("both free at one minute", 2, of(0, 0, 0, 0, 0), of(4, 4, 1, 9, 1), 0, 0, 4, 4, 5);
        waits("the second is free first", 2, of(0, 0, 1, 1), of(8, 3, 9, 1), 0, 0, 2, 7);
        waits("both free long since", 2, of(0, 0, 90, 90, 90), of(3, 1, 5, 6, 1), 0, 0, 0, 0, 5);
        waits("one hand only", 1, of(0, 0, 0), of(4, 4, 4), 0, 4, 8);
    }

    private static void longRuns() {
        int[] last = Bounds.alike(40, LAST_MINUTE);
        int[] longest = Bounds.alike(40, LONGEST);
        run(0, 1, last, longest).asks("the last of one hand", 1, 39000, x -> x.waited(2, 0, 1, 39));
        run(0, 2, last, longest).asks("the last of two hands", 1, 19000, x -> x.waited(2, 0, 1, 39));
        run(0, 1, last, longest).tells("seen by one hand", 40, 19500, 1, x -> x.seen(2, 0, 1));
        run(0, 2, last, longest).tells("seen by two hands", 40, 9500, 1, x -> x.seen(2, 0, 1));
    }

    private static void oneRowForBoth() {
        run(0, 1, of(1, 1, 2)).asks("waited", 1, 1, x -> x.waited(2, 0, 0, 1));
        run(0, 1, of(1, 1, 2)).tells("seen", 3, 2, 3, x -> x.seen(2, 0, 0));
        run(0, 1, of(0, 1)).finds("0 is no time to be served", Due.UNLIKE, x -> x.seen(2, 0, 0));
        run(0, 1, of(1, LONGEST + 1)).finds("1001 neither", Due.UNLIKE, x -> x.seen(2, 0, 0));
        run(0, 1, of(1, LONGEST)).tells("1000 is", 2, 0, 1, x -> x.seen(2, 0, 0));
    }

    /** A RUN begins with hands that are free, whatever was asked before. */
    private static void runsAgain() {
        for (int hands = 1; hands <= 2; hands++) {
            WaitingNets x = run(0, hands, of(0, 0, 0), 5, 5, 5).laid();
            for (int turn = 0; turn < 3; turn++) {
                DUE.asks("the first", x, x.waited(2, 0, 1, 0), 1, 0);
                DUE.asks("the third", x, x.waited(2, 0, 1, 2), 1, hands == 1 ? 10 : 5);
                DUE.tells("all", x, x.seen(2, 0, 1), 3, 5, hands == 1 ? 1 : 3);
            }
        }
    }
}
