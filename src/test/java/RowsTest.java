/** Promises 1 to 6: a new object, and ROWS. */
public final class RowsTest {
    private static final Due DUE = new Due("RowsTest");
    private static final int[] NO_ROWS = {-1, 6, Integer.MIN_VALUE, Integer.MAX_VALUE};

    public static void main(String[] args) {
        newObject();
        row();
        lay();
        tear();
        copy();
        copyBeyond();
        average();
        DUE.end();
    }

    private static void newObject() {
        WaitingNets x = new WaitingNets();
        for (int what = 0; what <= 3; what++) {
            DUE.is("new count " + what, x.count(what), 0);
        }
        DUE.is("new asked", x.asked(), 0);
        DUE.is("new upper", x.upper(), 0);
        DUE.is("new lower", x.lower(), 1);
        DUE.is("new finding", x.finding(), 0);
        for (int f = 1; f <= 5; f++) {
            DUE.is("new findings " + f, x.findings(f), 0);
        }
        for (int r = 0; r < 6; r++) {
            DUE.finds("new tear " + r, x, x.tear(r), Due.NOTHING);
        }
        for (int c = 0; c < 4; c++) {
            DUE.finds("new drop " + c, x, x.drop(c), Due.NOTHING);
        }
    }

    private static void row() {
        WaitingNets x = new WaitingNets();
        DUE.is("row(0, 40)", x.row(0, 40), 40);
        DUE.is("row(5, 0)", x.row(5, 0), 0);
        DUE.is("row(0, 41)", x.row(0, 41), WaitingNets.BAD);
        DUE.is("row(0, MAX)", x.row(0, Integer.MAX_VALUE), WaitingNets.BAD);
        DUE.is("count 0", x.count(0), 2);
        DUE.is("finding", x.finding(), 0);
        DUE.finds("row(0, -1)", x, x.row(0, -1), Due.SIZE);
        DUE.finds("row(0, MIN)", x, x.row(0, Integer.MIN_VALUE), Due.SIZE);
        for (int r : NO_ROWS) {
            DUE.is("row " + r, x.row(r, -1), WaitingNets.BAD);
        }
        x.lay(0, 39, 7);
        x.lay(0, 0, 7);
        DUE.is("row(0, 40) anew", x.row(0, 40), 40);
        DUE.asks("anew the first is 0", x, x.lay(0, 0, 1), 1, 0);
        DUE.asks("anew all are 0", x, x.lay(0, 39, 1), 1, 0);
        x.row(0, 3);
        x.lay(0, 2, 9);
        x.row(0, 2);
        DUE.finds("shorter", x, x.lay(0, 2, 1), Due.BEYOND);
        x.row(0, 3);
        DUE.asks("longer again", x, x.lay(0, 2, 1), 1, 0);
    }

    private static void lay() {
        WaitingNets x = new WaitingNets();
        DUE.finds("lay on none", x, x.lay(3, 0, 1), Due.NOTHING);
        x.row(3, 2);
        DUE.asks("lay", x, x.lay(3, 1, Integer.MIN_VALUE), 1, 0);
        DUE.asks("lay again", x, x.lay(3, 1, 5), 1, Integer.MIN_VALUE);
        DUE.finds("lay at 2", x, x.lay(3, 2, 5), Due.BEYOND);
        DUE.finds("lay at -1", x, x.lay(3, -1, 5), Due.BEYOND);
        DUE.finds("lay at MAX", x, x.lay(3, Integer.MAX_VALUE, 5), Due.BEYOND);
        DUE.is("asked stays", x.asked(), Integer.MIN_VALUE);
        for (int r : NO_ROWS) {
            DUE.is("lay " + r, x.lay(r, 0, 1), WaitingNets.BAD);
        }
        DUE.asks("it is 5", x, x.lay(3, 1, 0), 1, 5);
    }

    private static void tear() {
        WaitingNets x = new WaitingNets();
        x.row(2, 4);
        DUE.is("tear", x.tear(2), 1);
        DUE.is("count 0", x.count(0), 0);
        DUE.finds("tear again", x, x.tear(2), Due.NOTHING);
        DUE.finds("lay on torn", x, x.lay(2, 0, 1), Due.NOTHING);
        for (int r : NO_ROWS) {
            DUE.is("tear " + r, x.tear(r), WaitingNets.BAD);
        }
    }

    private static void copy() {
        WaitingNets x = new WaitingNets();
        Due.lay(x, 0, 1, 2, 3, 4, 5);
        Due.lay(x, 1, 9, 9, 9);
        DUE.is("copy to another", x.copy(0, 3, 1, 1, 2), 1);
        holds(x, 1, 9, 4, 5);
        holds(x, 0, 1, 2, 3, 4, 5);
        DUE.is("copy up in itself", x.copy(0, 0, 0, 1, 4), 1);
        holds(x, 0, 1, 1, 2, 3, 4);
        DUE.is("copy down in itself", x.copy(0, 1, 0, 0, 4), 1);
        holds(x, 0, 1, 2, 3, 4, 4);
        DUE.is("copy none at the end", x.copy(0, 5, 1, 3, 0), 1);
        holds(x, 1, 9, 4, 5);
    }

    private static void holds(WaitingNets x, int r, int... numbers) {
        for (int i = 0; i < numbers.length; i++) {
            x.lay(r, i, 0);
            DUE.is("place " + i, x.asked(), numbers[i]);
            x.lay(r, i, numbers[i]);
        }
    }

    private static void copyBeyond() {
        WaitingNets x = new WaitingNets();
        x.row(0, 5);
        DUE.finds("size ahead of nothing", x, x.copy(1, 0, 2, 0, -1), Due.SIZE);
        DUE.finds("to none", x, x.copy(0, 0, 2, 0, 0), Due.NOTHING);
        DUE.finds("from none", x, x.copy(2, 0, 0, 0, 0), Due.NOTHING);
        x.row(1, 3);
        DUE.finds("from beyond", x, x.copy(0, 3, 1, 0, 3), Due.BEYOND);
        DUE.finds("to beyond", x, x.copy(0, 0, 1, 1, 3), Due.BEYOND);
        DUE.finds("from -1", x, x.copy(0, -1, 1, 0, 1), Due.BEYOND);
        DUE.finds("to -1", x, x.copy(0, 0, 1, -1, 1), Due.BEYOND);
        DUE.finds("none from beyond", x, x.copy(0, 6, 1, 0, 0), Due.BEYOND);
        DUE.finds("many", x, x.copy(0, 1, 1, 1, Integer.MAX_VALUE), Due.BEYOND);
        DUE.finds("far", x, x.copy(0, Integer.MAX_VALUE, 1, 0, 1), Due.BEYOND);
        for (int r : NO_ROWS) {
            DUE.is("copy from " + r, x.copy(r, 0, 0, 0, -1), WaitingNets.BAD);
            DUE.is("copy to " + r, x.copy(0, 0, r, 0, -1), WaitingNets.BAD);
        }
    }

    private static void average() {
        WaitingNets x = new WaitingNets();
        DUE.finds("average of none", x, x.average(0), Due.NOTHING);
        x.row(0, 0);
        DUE.finds("average of no ints", x, x.average(0), Due.NOUGHT);
        Due.lay(x, 0, 1, 2, 4);
        DUE.asks("average", x, x.average(0), 1, 2);
        Due.lay(x, 0, 7);
        DUE.asks("average of one", x, x.average(0), 1, 7);
        Due.lay(x, 0, -1, -2, -4);
        DUE.asks("average below 0 is cut", x, x.average(0), 1, -2);
        Due.lay(x, 0, Integer.MAX_VALUE, Integer.MAX_VALUE, Integer.MAX_VALUE);
        DUE.asks("average of great ones", x, x.average(0), 1, Integer.MAX_VALUE);
        for (int r : NO_ROWS) {
            DUE.is("average " + r, x.average(r), WaitingNets.BAD);
        }
    }
}
