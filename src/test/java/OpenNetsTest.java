/** Promises 17 to 20: open nets. */
public final class OpenNetsTest {
    private static final Due DUE = new Due("OpenNetsTest");
    private static final int[] NO_COUNTERS = {-1, 4, Integer.MIN_VALUE, Integer.MAX_VALUE};

    public static void main(String[] args) {
        kept();
        flow();
        flowPastUnreached();
        use();
        mean();
        meanRefused();
        order();
        DUE.end();
    }

    private static void kept() {
        WaitingNets x = new WaitingNets();
        DUE.is("no counters", x.kept(), 0);
        for (int c = 0; c < 4; c++) {
            x.counter(c, c);
        }
        x.way(1, 2, 4);
        x.way(2, 1, 4);
        DUE.is("none come to what keeps", x.kept(), 0);
        x.way(0, 3, 3);
        x.comes(0, 1);
        DUE.is("all leave", x.kept(), 0);
        x.way(3, 2, 1);
        DUE.is("two keep", x.kept(), 6);
        DUE.is("flow of one that is not kept", x.flow(0), WaitingNets.STATE);
        x.way(2, 1, 3);
        DUE.is("a quarter leaves", x.kept(), 0);
        x.way(2, 2, 1);
        DUE.is("to itself is no leaving", x.kept(), 6);
        x.comes(0, 0);
        x.comes(2, 3);
        DUE.is("by COMES itself", x.kept(), 6);
        x.way(0, 1, 1);
        x.comes(2, 0);
        x.comes(3, 9);
        x.way(3, 2, 0);
        x.way(3, 0, 4);
        x.way(0, 1, 0);
        x.way(0, 3, 4);
        DUE.is("a ring of two", x.kept(), 9);
        x.way(0, 3, 0);
        x.way(0, 1, 4);
        DUE.is("all keep", x.kept(), 15);
    }

    private static void flow() {
        WaitingNets x = new WaitingNets();
        DUE.finds("flow of none", x, x.flow(0), Due.NOTHING);
        x.counter(0, 0);
        x.counter(1, 4);
        x.counter(2, 5);
        x.comes(0, 3);
        x.comes(1, 1);
        x.way(0, 1, 3);
        x.way(1, 0, 1);
        x.way(1, 1, 1);
        // f0 = 3 + f1 / 4, f1 = 1 + 3 f0 / 4 + f1 / 4
        DUE.tells("flow 0", x, x.flow(0), 1, 40, 9);
        DUE.tells("flow 1", x, x.flow(1), 1, 52, 9);
        DUE.tells("flow of one to which none come", x, x.flow(2), 1, 0, 1);
        for (int c : NO_COUNTERS) {
            DUE.is("flow of " + c, x.flow(c), WaitingNets.BAD);
        }
        x.comes(0, 0);
        // f0 = f1 / 4, f1 = 1 + 3 f0 / 4 + f1 / 4
        DUE.tells("flow by WAYS alone", x, x.flow(0), 1, 4, 9);
        x.comes(1, 0);
        x.comes(2, 6);
        x.way(2, 1, 2);
        x.way(2, 2, 1);
        // f2 = 6 + f2 / 4, f0 = f1 / 4, f1 = 3 f0 / 4 + f1 / 4 + f2 / 2
        DUE.tells("flow from the last", x, x.flow(0), 1, 16, 9);
        DUE.tells("flow from the last on", x, x.flow(1), 1, 64, 9);
        x.comes(2, 0);
        DUE.tells("none come", x, x.flow(2), 1, 0, 1);
        DUE.is("upper stays", x.upper(), 0);
    }

    private static void flowPastUnreached() {
        WaitingNets x = new WaitingNets();
        x.counter(0, 0);
        x.counter(1, 0);
        x.counter(3, 0);
        x.comes(3, 2);
        x.way(0, 1, 4);
        x.way(1, 0, 4);
        DUE.tells("a ring to which none come", x, x.flow(0), 1, 0, 1);
        DUE.tells("the other", x, x.flow(3), 1, 2, 1);
        x.way(1, 0, 2);
        x.way(1, 3, 2);
        DUE.tells("WAYS from where none come", x, x.flow(3), 1, 2, 1);
        x.way(3, 3, 3);
        DUE.tells("four times round", x, x.flow(3), 1, 8, 1);
    }

    private static void use() {
        WaitingNets x = new WaitingNets();
        DUE.finds("use of none", x, x.use(2), Due.NOTHING);
        x.counter(0, 0);
        x.comes(0, 9);
        x.rate(0, 6);
        DUE.tells("use above 1", x, x.use(0), 1, 3, 2);
        x.hands(0, 2);
        DUE.tells("use with two hands", x, x.use(0), 0, 3, 4);
        x.comes(0, 6);
        x.hands(0, 1);
        DUE.tells("use just 1", x, x.use(0), 1, 1, 1);
        x.counter(1, 3);
        x.way(0, 1, 4);
        DUE.tells("ENDLESS is never FULL", x, x.use(1), 0, 6, 1);
        x.counter(2, 5);
        x.way(1, 2, 4);
        DUE.tells("a ROOMED one can be FULL", x, x.use(2), 1, 6, 1);
        x.way(2, 2, 4);
        DUE.is("kept", x.use(0), WaitingNets.STATE);
        for (int c : NO_COUNTERS) {
            DUE.is("use of " + c, x.use(c), WaitingNets.BAD);
        }
    }

    private static void mean() {
        WaitingNets x = new WaitingNets();
        for (int c = 0; c < 4; c++) {
            x.counter(c, c);
            x.comes(c, 3);
            x.rate(c, 4);
        }
        for (int c = 0; c < 3; c++) {
            DUE.tells("mean " + c, x, x.mean(c, false), 1, 3, 1);
            DUE.tells("wait " + c, x, x.mean(c, true), 1, 1, 1);
        }
        DUE.tells("mean ENDLESS", x, x.mean(3, false), 1, 3, 4);
        DUE.tells("wait ENDLESS", x, x.mean(3, true), 1, 1, 4);
        x.hands(0, 2);
        DUE.tells("mean of two hands", x, x.mean(0, false), 1, 48, 55);
        DUE.tells("wait of two hands", x, x.mean(0, true), 1, 16, 55);
        x.comes(1, 4);
        DUE.is("one is FULL", x.mean(1, false), WaitingNets.STATE);
        DUE.tells("the others may be", x, x.mean(0, false), 1, 48, 55);
        x.comes(3, 9);
        DUE.tells("ENDLESS is not", x, x.mean(3, false), 1, 9, 4);
        x.comes(0, 0);
        DUE.tells("mean with flow 0", x, x.mean(0, false), 1, 0, 1);
    }

    private static void meanRefused() {
        WaitingNets x = new WaitingNets();
        DUE.finds("mean of none", x, x.mean(0, true), Due.NOTHING);
        x.counter(0, 0);
        DUE.finds("wait with flow 0", x, x.mean(0, true), Due.NOUGHT);
        x.counter(1, 4);
        DUE.is("not PRODUCT", x.mean(0, false), WaitingNets.STATE);
        DUE.is("STATE ahead of NOUGHT", x.mean(0, true), WaitingNets.STATE);
        x.counter(1, 0);
        x.comes(1, 1);
        x.way(1, 1, 4);
        DUE.is("KEPT elsewhere", x.mean(0, false), WaitingNets.STATE);
        DUE.is("KEPT ahead of NOUGHT", x.mean(0, true), WaitingNets.STATE);
        DUE.is("NOUGHT once", x.findings(Due.NOUGHT), 1);
        for (int c : NO_COUNTERS) {
            DUE.is("mean of " + c, x.mean(c, true), WaitingNets.BAD);
        }
    }

    /** NOTHING is told ahead of STATE by all three. */
    private static void order() {
        WaitingNets x = new WaitingNets();
        x.counter(0, 5);
        x.comes(0, 1);
        x.way(0, 0, 4);
        DUE.finds("flow", x, x.flow(1), Due.NOTHING);
        DUE.finds("use", x, x.use(1), Due.NOTHING);
        DUE.finds("mean", x, x.mean(1, false), Due.NOTHING);
        DUE.tells("nothing was told", x, x.flow(0), WaitingNets.STATE, 0, 1);
    }
}
