/** Promises 1 to 6 at their bounds: each method holds one sentence of the document. */
public final class BoundsOfRowsTest {
    private static final Due DUE = new Due("BoundsOfRowsTest");
    private static final int MIN = Bounds.MIN, MAX = Bounds.MAX;

    /** ROW 0 is missing, 1 has no place, 2 has two, 3 has five, 5 has forty. */
    private static final Bounds.Scene SOME_ROWS = x -> {
        x.row(1, 0);
        Bounds.row(x, 2, 8, 9);
        Bounds.row(x, 3, 1, 2, 3, 4, 5);
        Bounds.row(x, 5, Bounds.alike(40, 6));
    };
    private static final Bounds SOME = new Bounds(DUE, SOME_ROWS);
    private static final Bounds EMPTY = new Bounds(DUE, Bounds.NOTHING_LAID);

    public static void main(String[] args) {
        newObjectHasNoRows();
        newObjectHasNoCounters();
        rowNumbers();
        rowSizes();
        rowAbove40();
        rowBelow0();
        rowAnew();
        layPlaces();
        layAnyInt();
        layOrder();
        tearOnce();
        copyPlaces();
        copyFarPlaces();
        copyTakenAhead();
        copyOrder();
        averageOfNone();
        averageCut();
        averageOfGreatNumbers();
        DUE.end();
    }

    private static void holds(WaitingNets x, int r, int... numbers) {
        for (int i = 0; i < numbers.length; i++) {
            DUE.asks("place " + i, x, x.lay(r, i, numbers[i]), 1, numbers[i]);
        }
        DUE.finds("no more places", x, x.lay(r, numbers.length, 0), Due.BEYOND);
    }

    // ---- 1: "No ROWS, COUNTERS."

    private static void newObjectHasNoRows() {
        for (int r = 0; r <= 5; r++) {
            int row = r;
            EMPTY.finds("new lay " + r, Due.NOTHING, x -> x.lay(row, 0, 1));
            EMPTY.finds("new tear " + r, Due.NOTHING, x -> x.tear(row));
            EMPTY.finds("new copy " + r, Due.NOTHING, x -> x.copy(row, 0, row, 0, 0));
            EMPTY.finds("new average " + r, Due.NOTHING, x -> x.average(row));
            EMPTY.finds("new lasting " + r, Due.NOTHING, x -> x.lasting(row, 0));
            EMPTY.finds("new parts " + r, Due.NOTHING, x -> x.parts(row));
            EMPTY.finds("new judge " + r, Due.NOTHING, x -> x.judge(row, row));
        }
        DUE.is("new count(0)", new WaitingNets().count(0), 0);
    }

    private static void newObjectHasNoCounters() {
        for (int c = 0; c <= 3; c++) {
            int k = c;
            EMPTY.finds("new drop " + c, Due.NOTHING, x -> x.drop(k));
            EMPTY.finds("new rate " + c, Due.NOTHING, x -> x.rate(k, 1));
            EMPTY.finds("new way " + c, Due.NOTHING, x -> x.way(k, k, 0));
            EMPTY.finds("new comes " + c, Due.NOTHING, x -> x.comes(k, 0));
            EMPTY.finds("new told " + c, Due.NOTHING, x -> x.told(k, 0));
            EMPTY.finds("new flow " + c, Due.NOTHING, x -> x.flow(k));
            EMPTY.finds("new visits " + c, Due.NOTHING, x -> x.visits(k));
            EMPTY.answers("new counter " + c, 0, x -> x.counter(k, 0));
        }
        for (int what = 1; what <= 3; what++) {
            DUE.is("new count(" + what + ")", new WaitingNets().count(what), 0);
        }
    }

    // ---- "ROWS 0 .. 5", in each call that takes one

    private static void rowNumbers() {
        for (Bounds b : new Bounds[] {EMPTY, SOME}) {
            b.badOutside("row", 0, 5, (x, r) -> x.row(r, 2));
            b.badOutside("lay", 0, 5, (x, r) -> x.lay(r, 0, 1));
            b.badOutside("tear", 0, 5, (x, r) -> x.tear(r));
            b.badOutside("copy from", 0, 5, (x, r) -> x.copy(r, 0, 2, 0, 1));
            b.badOutside("copy to", 0, 5, (x, r) -> x.copy(2, 0, r, 0, 1));
            b.badOutside("average", 0, 5, (x, r) -> x.average(r));
        }
        for (int r : new int[] {0, 5}) {
            EMPTY.answers("row " + r, 2, x -> x.row(r, 2));
            Bounds b = new Bounds(DUE, x -> Bounds.row(x, r, 3, 4));
            b.asks("lay " + r, 1, 3, x -> x.lay(r, 0, 9));
            b.answers("tear " + r, 1, x -> x.tear(r));
            b.answers("copy " + r, 1, x -> x.copy(r, 0, r, 1, 1));
            b.asks("average " + r, 1, 3, x -> x.average(r));
        }
    }

    // ---- 2: "A ROW is there with n ints 0: n. BAD: also n above 40; SIZE: below 0."

    private static void rowSizes() {
        for (int n = 0; n <= 40; n++) {
            WaitingNets x = new WaitingNets();
            DUE.is("row(4, " + n + ")", x.row(4, n), n);
            DUE.is("it is there", x.count(0), 1);
            holds(x, 4, new int[n]);
        }
    }

    private static void rowAbove40() {
        for (int n : new int[] {41, 42, 1000, MAX}) {
            SOME.bad("row(0, " + n + ") of one that is missing", x -> x.row(0, n));
            SOME.bad("row(3, " + n + ") of one that is there", x -> x.row(3, n));
        }
        SOME.answers("row(3, 40)", 40, x -> x.row(3, 40));
    }

    private static void rowBelow0() {
        for (int n : new int[] {-1, -2, -40, MIN}) {
            SOME.finds("row(0, " + n + ") of one that is missing", Due.SIZE, x -> x.row(0, n));
            SOME.finds("row(3, " + n + ") of one that is there", Due.SIZE, x -> x.row(3, n));
            SOME.badOutside("BAD ahead of SIZE " + n, 0, 5, (x, r) -> x.row(r, n));
        }
        SOME.answers("row(3, 0)", 0, x -> x.row(3, 0));
    }

    private static void rowAnew() {
        WaitingNets x = SOME.laid();
        DUE.is("as long again", x.row(5, 40), 40);
        holds(x, 5, new int[40]);
        DUE.is("shorter", x.row(3, 4), 4);
        holds(x, 3, new int[4]);
        DUE.is("longer again", x.row(3, 5), 5);
        holds(x, 3, new int[5]);
        DUE.is("the others are as they were", x.count(0), 4);
        holds(x, 2, 8, 9);
    }

    // ---- 3: "Place i of a ROW is v: what it was, told by asked(): 1. BAD; NOTHING; BEYOND."

    private static void layPlaces() {
        SOME.asks("the first place", 1, 1, x -> x.lay(3, 0, 7));
        SOME.asks("the last place", 1, 5, x -> x.lay(3, 4, 7));
        SOME.asks("place 39 of forty", 1, 6, x -> x.lay(5, 39, 7));
        SOME.findsOutside("of five", Due.BEYOND, 0, 4, (x, i) -> x.lay(3, i, 7));
        SOME.findsOutside("of forty", Due.BEYOND, 0, 39, (x, i) -> x.lay(5, i, 7));
        SOME.findsOutside("of none", Due.BEYOND, 0, -1, (x, i) -> x.lay(1, i, 7));
    }

    private static void layAnyInt() {
        WaitingNets x = new WaitingNets();
        x.row(0, 1);
        int before = 0;
        for (int v : new int[] {MIN, MAX, -1, 0, 1, MIN + 1, MAX - 1}) {
            DUE.asks("lay " + v, x, x.lay(0, 0, v), 1, before);
            before = v;
        }
        DUE.asks("the last", x, x.lay(0, 0, 0), 1, MAX - 1);
    }

    private static void layOrder() {
        SOME.findsOutside("NOTHING ahead of BEYOND", Due.NOTHING, 0, -1, (x, i) -> x.lay(0, i, 7));
        for (int i : new int[] {-1, 40, MIN, MAX}) {
            SOME.badOutside("BAD ahead of BEYOND " + i, 0, 5, (x, r) -> x.lay(r, i, 7));
        }
    }

    // ---- 4: "A ROW is missing: 1. BAD; NOTHING."

    private static void tearOnce() {
        SOME.answers("tear", 1, x -> x.tear(3));
        SOME.answers("tear an empty one", 1, x -> x.tear(1));
        SOME.finds("tear what is missing", Due.NOTHING, x -> x.tear(0));
        Bounds torn = new Bounds(DUE, x -> {
            SOME_ROWS.on(x);
            x.tear(5);
            x.tear(1);
        });
        for (int r : new int[] {1, 5}) {
            torn.finds("tear again " + r, Due.NOTHING, x -> x.tear(r));
            torn.finds("lay behind tear " + r, Due.NOTHING, x -> x.lay(r, 0, 1));
            torn.finds("copy behind tear " + r, Due.NOTHING, x -> x.copy(r, 0, 3, 0, 0));
            torn.finds("average behind tear " + r, Due.NOTHING, x -> x.average(r));
            torn.answers("row behind tear " + r, 3, x -> x.row(r, 3));
        }
        WaitingNets x = torn.laid();
        x.row(5, 40);
        holds(x, 5, new int[40]);
    }

    // ---- 5: "n places of a ROW, from one on, come to those of another one (perhaps itself) from one on, as
    // if taken ahead: 1. BAD; SIZE: n below 0; NOTHING: either; BEYOND: not so many there."

    private static void copyPlaces() {
        for (int i = -1; i <= 6; i++) {
            for (int j = -1; j <= 3; j++) {
                for (int n = 0; n <= 6; n++) {
                    copyOne(i, j, n);
                }
            }
        }
    }

    /** From ROW 3 (1, 2, 3, 4, 5) to ROW 2 (8, 9). */
    private static void copyOne(int i, int j, int n) {
        String text = "copy(3, " + i + ", 2, " + j + ", " + n + ")";
        WaitingNets x = new WaitingNets();
        SOME_ROWS.on(x);
        int got = x.copy(3, i, 2, j, n);
        int[] due = {8, 9};
        if (i < 0 || j < 0 || i > 5 - n || j > 2 - n) {
            DUE.finds(text, x, got, Due.BEYOND);
        } else {
            DUE.is(text, got, 1);
            for (int k = 0; k < n; k++) {
                due[j + k] = i + k + 1;
            }
        }
        holds(x, 2, due);
        holds(x, 3, 1, 2, 3, 4, 5);
    }

    private static void copyFarPlaces() {
        for (int n : new int[] {-1, -2, MIN}) {
            SOME.finds("n below 0", Due.SIZE, x -> x.copy(3, 0, 2, 0, n));
        }
        SOME.answers("n 0", 1, x -> x.copy(3, 0, 2, 0, 0));
        SOME.answers("n 0 of none", 1, x -> x.copy(1, 0, 1, 0, 0));
        SOME.answers("n 0 at both ends", 1, x -> x.copy(3, 5, 2, 2, 0));
        SOME.finds("n 1 of none", Due.BEYOND, x -> x.copy(1, 0, 2, 0, 1));
        SOME.finds("n 1 to none", Due.BEYOND, x -> x.copy(2, 0, 1, 0, 1));
        SOME.answers("all forty to themselves", 1, x -> x.copy(5, 0, 5, 0, 40));
        SOME.finds("41", Due.BEYOND, x -> x.copy(5, 0, 5, 0, 41));
        int[][] far = {
            {MAX, 0, 1}, {0, MAX, 1}, {MIN, 0, 1}, {0, MIN, 1}, {1, 0, MAX}, {0, 1, MAX}, {1, 1, MAX},
            {MAX, MAX, MAX}, {MIN, MIN, MAX}, {MAX, 0, 0}, {0, MAX, 0}, {MIN, 0, 0}, {0, MIN, 0}, {0, 0, MAX}};
        for (int[] f : far) {
            String text = "far copy " + f[0] + " " + f[1] + " " + f[2];
            SOME.finds(text, Due.BEYOND, x -> x.copy(3, f[0], 2, f[1], f[2]));
            SOME.finds(text + " in itself", Due.BEYOND, x -> x.copy(5, f[0], 5, f[1], f[2]));
        }
    }

    private static void copyTakenAhead() {
        WaitingNets x = SOME.laid();
        DUE.is("up by one", x.copy(3, 0, 3, 1, 4), 1);
        holds(x, 3, 1, 1, 2, 3, 4);
        x = SOME.laid();
        DUE.is("up by two", x.copy(3, 0, 3, 2, 3), 1);
        holds(x, 3, 1, 2, 1, 2, 3);
        x = SOME.laid();
        DUE.is("down by one", x.copy(3, 1, 3, 0, 4), 1);
        holds(x, 3, 2, 3, 4, 5, 5);
        x = SOME.laid();
        DUE.is("where it is", x.copy(3, 0, 3, 0, 5), 1);
        holds(x, 3, 1, 2, 3, 4, 5);
    }

    private static void copyOrder() {
        for (int n : new int[] {-1, 0, 1, MIN, MAX}) {
            SOME.badOutside("BAD ahead of all, from", 0, 5, (x, r) -> x.copy(r, -1, 0, -1, n));
            SOME.badOutside("BAD ahead of all, to", 0, 5, (x, r) -> x.copy(0, -1, r, -1, n));
        }
        SOME.finds("SIZE ahead of NOTHING: from", Due.SIZE, x -> x.copy(0, 0, 3, 0, -1));
        SOME.finds("SIZE ahead of NOTHING: to", Due.SIZE, x -> x.copy(3, 0, 0, 0, -1));
        SOME.finds("SIZE ahead of BEYOND", Due.SIZE, x -> x.copy(3, -1, 2, 9, MIN));
        SOME.finds("NOTHING: from", Due.NOTHING, x -> x.copy(0, 0, 3, 0, 1));
        SOME.finds("NOTHING: to", Due.NOTHING, x -> x.copy(3, 0, 0, 0, 1));
        SOME.finds("NOTHING ahead of BEYOND: from", Due.NOTHING, x -> x.copy(0, 0, 3, 6, 1));
        SOME.finds("NOTHING ahead of BEYOND: to", Due.NOTHING, x -> x.copy(3, -1, 0, 0, 1));
        SOME.finds("NOTHING with n 0", Due.NOTHING, x -> x.copy(0, 0, 0, 0, 0));
    }

    // ---- 6: "The mean of a ROW's ints, cut, told by asked(): 1. BAD; NOTHING; NOUGHT."

    private static void averageOfNone() {
        SOME.finds("of no ints", Due.NOUGHT, x -> x.average(1));
        SOME.finds("of a missing one", Due.NOTHING, x -> x.average(0));
        Bounds one = new Bounds(DUE, x -> Bounds.row(x, 0, -3));
        one.asks("of one", 1, -3, x -> x.average(0));
    }

    private static void averageCut() {
        int[][] rows = {{1, 2}, {-1, -2}, {-1, 0}, {1, 0}, {0, 0}, {2, 3, 3}, {-2, -3, -3}, {MAX, MIN}, {MIN, MAX, 0}};
        int[] due = {1, -1, 0, 0, 0, 2, -2, 0, 0};
        for (int k = 0; k < rows.length; k++) {
            int[] numbers = rows[k];
            new Bounds(DUE, x -> Bounds.row(x, 0, numbers)).asks("cut " + k, 1, due[k], x -> x.average(0));
        }
    }

    private static void averageOfGreatNumbers() {
        for (int v : new int[] {MIN, MAX, MIN + 1, MAX - 1}) {
            for (int n : new int[] {1, 2, 3, 39, 40}) {
                Bounds b = new Bounds(DUE, x -> Bounds.row(x, 3, Bounds.alike(n, v)));
                b.asks(n + " times " + v, 1, v, x -> x.average(3));
            }
        }
    }
}
