/** Promises 21 to 30: closed nets. */
public final class ClosedNetsTest {
    private static final Due DUE = new Due("ClosedNetsTest");
    private static final int[] NO_COUNTERS = {-1, 4, Integer.MIN_VALUE, Integer.MAX_VALUE};
    private static final int[] NO_THINGS = {-1, 0, 5, Integer.MIN_VALUE, Integer.MAX_VALUE};

    public static void main(String[] args) {
        closed();
        visits();
        ringOfTwo();
        handsAndEndless();
        chanceRefused();
        narrow();
        bound();
        best();
        bestOfAlike();
        bestByLittle();
        firstCalls();
        fourAlike();
        balance();
        wrongNumbers();
        notClosed();
        greatNumbers();
        greatNumbersTurned();
        DUE.end();
    }

    /** Two COUNTERS of these KINDS, RATES 1 and 2, all that leaves one going to the other. */
    private static WaitingNets ring(int kind, int otherKind) {
        WaitingNets x = new WaitingNets();
        x.counter(0, kind);
        x.counter(1, otherKind);
        x.rate(1, 2);
        x.way(0, 1, 4);
        x.way(1, 0, 4);
        return x;
    }

    private static void closed() {
        WaitingNets x = new WaitingNets();
        DUE.is("no counters", x.closed(), 0);
        x = ring(0, 0);
        DUE.is("a ring", x.closed(), 1);
        x.comes(1, 1);
        DUE.is("some come", x.closed(), 0);
        x.comes(1, 0);
        x.way(0, 1, 3);
        DUE.is("some leave", x.closed(), 0);
        x.way(0, 0, 1);
        DUE.is("to itself", x.closed(), 1);
        x.counter(3, 1);
        DUE.is("one more that some leave", x.closed(), 0);
        x.way(3, 3, 4);
        DUE.is("one more that stands alone", x.closed(), 0);
        x.way(3, 3, 3);
        x.way(3, 0, 1);
        DUE.is("one more to which none leads", x.closed(), 0);
        x.way(0, 0, 0);
        x.way(0, 3, 1);
        DUE.is("all lead to one another", x.closed(), 1);
        DUE.is("RANKED", ring(0, 4).closed(), 0);
        DUE.is("ROOMED", ring(5, 0).closed(), 0);
        DUE.is("SHARED and ENDLESS", ring(1, 3).closed(), 1);
        DUE.is("LAST", ring(2, 2).closed(), 1);
    }

    private static void visits() {
        WaitingNets x = new WaitingNets();
        for (int c = 0; c < 4; c++) {
            x.counter(c, 0);
        }
        x.way(0, 0, 3);
        x.way(0, 1, 1);
        x.way(1, 0, 3);
        x.way(1, 2, 1);
        x.way(2, 0, 3);
        x.way(2, 3, 1);
        x.way(3, 0, 4);
        int[] due = {64, 16, 4, 1};
        for (int c = 0; c < 4; c++) {
            DUE.is("visits " + c, x.visits(c), due[c]);
        }
        x.way(3, 0, 0);
        DUE.is("not closed", x.visits(0), WaitingNets.STATE);
        x.drop(3);
        DUE.finds("NOTHING ahead of STATE", x, x.visits(3), Due.NOTHING);
        for (int c : NO_COUNTERS) {
            DUE.is("visits of " + c, x.visits(c), WaitingNets.BAD);
        }
        x = ring(0, 0);
        x.way(0, 1, 2);
        x.way(0, 0, 2);
        DUE.is("without a common part", x.visits(0), 2);
        DUE.is("the other", x.visits(1), 1);
    }

    private static void ringOfTwo() {
        WaitingNets x = ring(0, 0);
        DUE.tells("through(0, 1)", x, x.through(0, 1), 1, 2, 3);
        DUE.tells("through(1, 2)", x, x.through(1, 2), 1, 6, 7);
        DUE.tells("meanOf(0, 2)", x, x.meanOf(0, 2), 1, 10, 7);
        DUE.tells("meanOf(1, 2)", x, x.meanOf(1, 2), 1, 4, 7);
        DUE.tells("round(0, 2)", x, x.round(0, 2), 1, 7, 3);
        Due.lay(x, 0, 0, 1, 0, 0);
        DUE.tells("chance of 0 and 1", x, x.chance(0), 1, 1, 3);
        Due.lay(x, 0, 1, 1, 0, 0);
        DUE.tells("chance of 1 and 1", x, x.chance(0), 2, 2, 7);
        Due.lay(x, 0, 0, 2, 0, 0);
        DUE.tells("chance of 0 and 2", x, x.chance(0), 2, 1, 7);
        Due.lay(x, 0, 4, 0, 0, 0);
        DUE.tells("chance of 4 and 0", x, x.chance(0), 4, 16, 31);
        x.way(0, 1, 1);
        x.way(0, 0, 3);
        DUE.tells("by VISITS 4", x, x.through(0, 1), 1, 8, 9);
        DUE.tells("by VISITS 1", x, x.through(1, 1), 1, 2, 9);
        DUE.tells("round by VISITS", x, x.round(1, 1), 1, 9, 2);
    }

    private static void handsAndEndless() {
        WaitingNets x = ring(0, 3);
        x.rate(1, 1);
        x.hands(0, 2);
        DUE.tells("through(0, 4)", x, x.through(0, 4), 1, 17, 10);
        DUE.tells("meanOf(1, 4)", x, x.meanOf(1, 4), 1, 17, 10);
        DUE.tells("meanOf(0, 4)", x, x.meanOf(0, 4), 1, 23, 10);
        DUE.tells("round(0, 4)", x, x.round(0, 4), 1, 40, 17);
        Due.lay(x, 5, 4, 0, 0, 0);
        DUE.tells("chance of 4 at two hands", x, x.chance(5), 4, 3, 20);
        Due.lay(x, 5, 0, 4, 0, 0);
        DUE.tells("chance of 4 at an ENDLESS one", x, x.chance(5), 4, 1, 20);
        Due.lay(x, 5, 2, 2, 0, 0);
        DUE.tells("chance of 2 and 2", x, x.chance(5), 4, 3, 10);
        for (int kind = 1; kind <= 2; kind++) {
            WaitingNets y = ring(kind, 0);
            DUE.tells("SHARED, LAST as one hand", y, y.through(0, 2), 1, 6, 7);
        }
    }

    private static void chanceRefused() {
        WaitingNets x = new WaitingNets();
        DUE.is("STATE ahead of NOTHING", x.chance(0), WaitingNets.STATE);
        x = ring(0, 0);
        for (int r : new int[] {-1, 6, Integer.MIN_VALUE, Integer.MAX_VALUE}) {
            DUE.is("chance of " + r, x.chance(r), WaitingNets.BAD);
        }
        DUE.finds("no row", x, x.chance(0), Due.NOTHING);
        Due.lay(x, 0, 1, 1, 0);
        DUE.finds("three", x, x.chance(0), Due.SIZE);
        Due.lay(x, 0, 1, 1, 0, 0, 0);
        DUE.finds("five", x, x.chance(0), Due.SIZE);
        int[][] none = {
            {0, 0, 0, 0}, {3, 2, 0, 0}, {2, -1, 0, 0}, {1, 0, 1, 0}, {1, 1, 0, -1},
            {Integer.MAX_VALUE, Integer.MAX_VALUE, 0, 0}, {5, 0, 0, 0}};
        for (int[] state : none) {
            Due.lay(x, 0, state);
            DUE.finds("state", x, x.chance(0), Due.UNLIKE);
        }
        DUE.is("nothing told", x.lower(), 1);
        x.comes(0, 1);
        DUE.is("STATE ahead of UNLIKE", x.chance(0), WaitingNets.STATE);
    }

    private static void narrow() {
        WaitingNets x = ring(0, 0);
        DUE.is("the slower", x.narrow(), 0);
        x.hands(0, 2);
        DUE.is("the first of alike ones", x.narrow(), 0);
        x.rate(1, 1);
        DUE.is("the one with fewer hands", x.narrow(), 1);
        x.rate(0, 4);
        x.rate(1, 6);
        DUE.is("two hands at 4 are faster than one at 6", x.narrow(), 1);
        DUE.is("all ENDLESS", ring(3, 3).narrow(), WaitingNets.NONE);
        DUE.is("ENDLESS aside", ring(3, 1).narrow(), 1);
        DUE.is("LAST", ring(2, 0).narrow(), 0);
        x.comes(0, 1);
        DUE.is("not closed", x.narrow(), WaitingNets.STATE);
    }

    private static void bound() {
        WaitingNets x = ring(0, 0);
        DUE.tells("bound by the sum", x, x.bound(0, 1), 1, 2, 3);
        DUE.tells("bound by NARROW", x, x.bound(0, 2), 1, 1, 1);
        x.hands(0, 2);
        DUE.tells("bound by the sum with two hands", x, x.bound(0, 2), 1, 4, 3);
        DUE.tells("bound by NARROW with two hands", x, x.bound(1, 4), 1, 2, 1);
        x.way(0, 0, 3);
        x.way(0, 1, 1);
        x.way(0, 0, 3);
        DUE.tells("bound by the VISITS of NARROW", x, x.bound(1, 4), 1, 1, 2);
        WaitingNets y = ring(3, 3);
        DUE.tells("without NARROW", y, y.bound(1, 4), 1, 8, 3);
    }

    private static void best() {
        WaitingNets x = ring(0, 0);
        DUE.is("best", x.best(2), 0);
        DUE.tells("best", x, x.best(2), 0, 6, 5);
        DUE.asks("hands are as they were", x, x.told(0, 2), 1, 1);
        DUE.tells("through is as it was", x, x.through(0, 2), 1, 6, 7);
        x.hands(0, 2);
        DUE.tells("the other", x, x.best(2), 1, 4, 3);
        x.hands(1, 2);
        DUE.tells("none with one hand", x, x.best(2), WaitingNets.NONE, 4, 3);
        WaitingNets y = ring(1, 3);
        DUE.tells("none of KIND 0", y, y.best(4), WaitingNets.NONE, 0, 1);
        y = ring(2, 0);
        DUE.tells("one of KIND 0, told of the first", y, y.best(2), 1, 12, 13);
        y.way(1, 1, 2);
        y.way(1, 0, 2);
        y.way(1, 1, 2);
        DUE.tells("THROUGH is of the first", y, y.best(1), 1, 1, 2);
    }

    private static void bestOfAlike() {
        WaitingNets x = ring(0, 0);
        x.rate(1, 1);
        DUE.tells("the first of alike ones", x, x.best(3), 0, 10, 11);
        DUE.tells("alike with one thing", x, x.best(1), 0, 1, 2);
        WaitingNets y = new WaitingNets();
        y.counter(2, 0);
        y.counter(3, 0);
        y.rate(2, 12);
        y.way(2, 3, 4);
        y.way(3, 2, 4);
        DUE.tells("alike with one thing, of others", y, y.best(1), 2, 12, 13);
        DUE.is("the slower gains more", y.best(2), 3);
    }

    /** A later THROUGH is greater, and one of the two comes out even while they are held together. */
    private static void bestByLittle() {
        WaitingNets x = new WaitingNets();
        for (int c = 0; c < 3; c++) {
            x.counter(c, 0);
            x.rate(c, new int[] {2, 3, 6}[c]);
        }
        x.hands(2, 2);
        x.way(0, 1, 4);
        x.way(1, 0, 2);
        x.way(1, 2, 2);
        x.way(2, 1, 2);
        x.way(2, 2, 2);
        DUE.tells("best of three", x, x.best(2), 1, 6, 5);
        WaitingNets y = new WaitingNets();
        for (int c = 0; c < 4; c++) {
            y.counter(c, c == 3 ? 1 : 0);
            y.rate(c, new int[] {12, 12, 6, 4}[c]);
        }
        y.way(0, 2, 4);
        y.way(1, 0, 2);
        y.way(1, 3, 2);
        y.way(2, 3, 4);
        y.way(3, 1, 4);
        DUE.tells("best of four", y, y.best(2), 1, 44, 27);
    }

    /** A net that is all new to the object must be looked at by each call itself. */
    private static void firstCalls() {
        WaitingNets x = ring(0, 0);
        DUE.is("visits", x.visits(1), 1);
        x = ring(0, 0);
        Due.lay(x, 0, 1, 1, 0, 0);
        DUE.tells("chance", x, x.chance(0), 2, 2, 7);
        x = ring(0, 0);
        DUE.tells("through", x, x.through(0, 1), 1, 2, 3);
        x = ring(0, 0);
        DUE.tells("meanOf", x, x.meanOf(1, 1), 1, 1, 3);
        x = ring(0, 0);
        DUE.tells("round", x, x.round(0, 1), 1, 3, 2);
        x = ring(3, 0);
        DUE.is("narrow", x.narrow(), 1);
        x = ring(0, 0);
        DUE.tells("bound", x, x.bound(0, 1), 1, 2, 3);
        x = ring(0, 0);
        DUE.tells("best", x, x.best(1), 0, 2, 3);
        x = ring(0, 0);
        DUE.is("balance", x.balance(3), 4);
    }

    /** Four alike ones: each STATE of n things has the same chance. */
    private static void fourAlike() {
        WaitingNets x = new WaitingNets();
        for (int c = 0; c < 4; c++) {
            x.counter(c, c % 3);
        }
        for (int c = 0; c < 4; c++) {
            x.way(c, (c + 1) % 4, 4);
        }
        int[] states = {4, 10, 20, 35};
        int[][] through = {{1, 4}, {2, 5}, {1, 2}, {4, 7}};
        int[][] mean = {{1, 4}, {1, 2}, {3, 4}, {1, 1}};
        for (int n = 1; n <= 4; n++) {
            DUE.tells("through " + n, x, x.through(3, n), 1, through[n - 1][0], through[n - 1][1]);
            for (int c = 0; c < 4; c++) {
                DUE.tells("meanOf " + n, x, x.meanOf(c, n), 1, mean[n - 1][0], mean[n - 1][1]);
            }
            Due.lay(x, 0, 0, n - 1, 0, 1);
            DUE.tells("chance " + n, x, x.chance(0), n, 1, states[n - 1]);
        }
    }

    private static void balance() {
        WaitingNets x = ring(0, 0);
        int[] due = {2, 3, 4, 5};
        for (int n = 1; n <= 4; n++) {
            DUE.is("balance " + n, x.balance(n), due[n - 1]);
        }
        WaitingNets y = new WaitingNets();
        y.counter(2, 0);
        y.counter(3, 3);
        y.way(2, 3, 4);
        y.way(3, 2, 4);
        DUE.is("the first are missing", y.balance(3), 4);
        x.counter(2, 3);
        x.counter(3, 2);
        x.hands(0, 2);
        x.way(0, 1, 1);
        x.way(0, 2, 2);
        x.way(0, 0, 1);
        x.way(2, 3, 3);
        x.way(2, 0, 1);
        x.way(3, 1, 4);
        int[] four = {4, 10, 20, 35};
        for (int n = 1; n <= 4; n++) {
            DUE.is("balance of four counters " + n, x.balance(n), four[n - 1]);
        }
    }

    private static void wrongNumbers() {
        WaitingNets x = ring(0, 0);
        for (int n : NO_THINGS) {
            DUE.is("through with " + n, x.through(0, n), WaitingNets.BAD);
            DUE.is("meanOf with " + n, x.meanOf(0, n), WaitingNets.BAD);
            DUE.is("round with " + n, x.round(0, n), WaitingNets.BAD);
            DUE.is("bound with " + n, x.bound(0, n), WaitingNets.BAD);
            DUE.is("best with " + n, x.best(n), WaitingNets.BAD);
            DUE.is("balance with " + n, x.balance(n), WaitingNets.BAD);
            DUE.is("BAD ahead of NOTHING " + n, x.through(3, n), WaitingNets.BAD);
        }
        for (int c : NO_COUNTERS) {
            DUE.is("through of " + c, x.through(c, 1), WaitingNets.BAD);
            DUE.is("meanOf of " + c, x.meanOf(c, 1), WaitingNets.BAD);
            DUE.is("round of " + c, x.round(c, 1), WaitingNets.BAD);
            DUE.is("bound of " + c, x.bound(c, 1), WaitingNets.BAD);
        }
        DUE.is("nothing found", x.finding(), 0);
    }

    private static void notClosed() {
        WaitingNets x = ring(0, 0);
        x.comes(0, 1);
        DUE.finds("through of none", x, x.through(2, 1), Due.NOTHING);
        DUE.finds("meanOf of none", x, x.meanOf(2, 1), Due.NOTHING);
        DUE.finds("round of none", x, x.round(2, 1), Due.NOTHING);
        DUE.finds("bound of none", x, x.bound(2, 1), Due.NOTHING);
        DUE.is("through", x.through(0, 1), WaitingNets.STATE);
        DUE.is("meanOf", x.meanOf(0, 1), WaitingNets.STATE);
        DUE.is("round", x.round(0, 1), WaitingNets.STATE);
        DUE.is("bound", x.bound(0, 1), WaitingNets.STATE);
        DUE.is("best", x.best(1), WaitingNets.STATE);
        DUE.is("balance", x.balance(1), WaitingNets.STATE);
        DUE.is("best BAD first", x.best(0), WaitingNets.BAD);
        DUE.is("balance BAD first", x.balance(0), WaitingNets.BAD);
    }

    /** The greatest VISITS that there are: products of two such fractions pass what a long holds. */
    private static void greatNumbers() {
        WaitingNets x = new WaitingNets();
        for (int c = 0; c < 4; c++) {
            x.counter(c, 0);
            x.rate(c, c == 0 ? 1 : 12);
        }
        for (int c = 0; c < 3; c++) {
            x.way(c, c + 1, 1);
            x.way(c, 0, 3);
        }
        x.way(3, 0, 4);
        DUE.is("visits", x.visits(0), 64);
        DUE.tells("through", x, x.through(0, 4), 1, 1548138752L, 1548139155L);
        DUE.tells("best", x, x.best(4), 0, 30648149248L, 15324847671L);
        DUE.is("balance", x.balance(4), 35);
        x.counter(0, 1);
        x.way(0, 0, 3);
        x.way(0, 1, 1);
        x.way(1, 0, 3);
        x.way(2, 0, 3);
        x.way(3, 0, 4);
        DUE.tells("best but the first", x, x.best(4), 1, 357541703424L, 357541721125L);
        x.hands(1, 2);
        x.hands(2, 2);
        DUE.is("the last is left", x.best(4), 3);
    }

    /** The same net told from behind: the fractions come so near that a later one is but little greater. */
    private static void greatNumbersTurned() {
        WaitingNets x = new WaitingNets();
        for (int c = 0; c < 4; c++) {
            x.counter(c, c == 3 ? 1 : 0);
            x.rate(c, c == 3 ? 1 : 12);
        }
        for (int c = 3; c > 0; c--) {
            x.way(c, c - 1, 1);
            x.way(c, 3, 3);
        }
        x.way(0, 3, 4);
        DUE.is("visits", x.visits(3), 64);
        DUE.tells("best is the greatest, told of the first", x, x.best(4), 2, 5586589116L, 357541721125L);
        x.hands(2, 2);
        DUE.is("the next", x.best(4), 1);
    }
}
