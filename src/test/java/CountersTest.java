/** Promises 7 to 16: COUNTERS and WAYS. */
public final class CountersTest {
    private static final Due DUE = new Due("CountersTest");
    private static final int[] NO_COUNTERS = {-1, 4, Integer.MIN_VALUE, Integer.MAX_VALUE};
    private static final int[] RATES = {1, 2, 3, 4, 6, 12};

    public static void main(String[] args) {
        counter();
        counterAnew();
        drop();
        rate();
        hands();
        room();
        way();
        comes();
        told();
        mark();
        product();
        DUE.end();
    }

    private static void counter() {
        WaitingNets x = new WaitingNets();
        for (int c = 0; c < 4; c++) {
            DUE.is("counter", x.counter(c, c), 0);
            DUE.asks("kind", x, x.told(c, 0), 1, c);
            DUE.asks("rate at first", x, x.told(c, 1), 1, 1);
            DUE.asks("hands at first", x, x.told(c, 2), 1, 1);
            DUE.asks("comes at first", x, x.told(c, 3), 1, 0);
            DUE.asks("leaving at first", x, x.told(c, 4), 1, 4);
        }
        DUE.is("counter kind 5", x.counter(3, 5), 1);
        DUE.is("counter kind -1", x.counter(0, -1), WaitingNets.BAD);
        DUE.is("counter kind 6", x.counter(0, 6), WaitingNets.BAD);
        for (int c : NO_COUNTERS) {
            DUE.is("counter " + c, x.counter(c, 0), WaitingNets.BAD);
        }
        DUE.is("count", x.count(1), 4);
    }

    private static void counterAnew() {
        WaitingNets x = new WaitingNets();
        x.counter(0, 0);
        x.counter(1, 5);
        x.rate(1, 6);
        x.room(1, 4);
        x.comes(1, 7);
        x.way(0, 1, 3);
        x.way(1, 0, 2);
        x.way(1, 1, 1);
        x.way(0, 0, 1);
        DUE.is("ways", x.count(3), 4);
        DUE.is("anew", x.counter(1, 5), 1);
        DUE.is("ways that stay", x.count(3), 1);
        DUE.is("room", x.mark(1, 5), 1);
        DUE.asks("rate", x, x.told(1, 1), 1, 1);
        DUE.asks("comes", x, x.told(1, 3), 1, 0);
        DUE.asks("leaving", x, x.told(1, 4), 1, 4);
        DUE.asks("leaving the other", x, x.told(0, 4), 1, 3);
        x.counter(2, 0);
        x.hands(2, 2);
        x.counter(2, 1);
        DUE.asks("hands of a SHARED one", x, x.told(2, 2), 1, 1);
        x.counter(2, 0);
        DUE.asks("hands are not kept", x, x.told(2, 2), 1, 1);
    }

    private static void drop() {
        WaitingNets x = new WaitingNets();
        DUE.finds("drop none", x, x.drop(2), Due.NOTHING);
        x.counter(2, 0);
        x.counter(0, 0);
        x.comes(2, 5);
        x.rate(2, 4);
        x.way(2, 0, 2);
        x.way(0, 2, 3);
        DUE.is("drop", x.drop(2), 1);
        DUE.finds("drop again", x, x.drop(2), Due.NOTHING);
        DUE.is("count 1", x.count(1), 1);
        DUE.is("count 3", x.count(3), 0);
        DUE.asks("nothing goes there", x, x.told(0, 4), 1, 4);
        DUE.is("comes again", x.counter(2, 0), 0);
        DUE.asks("comes", x, x.told(2, 3), 1, 0);
        DUE.asks("rate", x, x.told(2, 1), 1, 1);
        for (int c : NO_COUNTERS) {
            DUE.is("drop " + c, x.drop(c), WaitingNets.BAD);
        }
    }

    private static void rate() {
        WaitingNets x = new WaitingNets();
        DUE.finds("rate of none", x, x.rate(1, 2), Due.NOTHING);
        x.counter(1, 3);
        int before = 1;
        for (int v : RATES) {
            DUE.is("rate " + v, x.rate(1, v), before);
            before = v;
        }
        for (int v : new int[] {0, -1, 5, 7, 8, 9, 10, 11, 13, 24}) {
            DUE.is("rate " + v, x.rate(1, v), WaitingNets.BAD);
            DUE.is("rate of none " + v, x.rate(0, v), WaitingNets.BAD);
        }
        for (int c : NO_COUNTERS) {
            DUE.is("rate of " + c, x.rate(c, 1), WaitingNets.BAD);
        }
        DUE.asks("rate told", x, x.told(1, 1), 1, 12);
    }

    private static void hands() {
        WaitingNets x = new WaitingNets();
        DUE.finds("hands of none", x, x.hands(0, 2), Due.NOTHING);
        x.counter(0, 0);
        DUE.is("hands 2", x.hands(0, 2), 1);
        DUE.is("hands 1", x.hands(0, 1), 2);
        DUE.is("hands 0", x.hands(0, 0), WaitingNets.BAD);
        DUE.is("hands 3", x.hands(0, 3), WaitingNets.BAD);
        for (int kind = 1; kind <= 5; kind++) {
            x.counter(1, kind);
            DUE.finds("hands of kind " + kind, x, x.hands(1, 1), Due.UNLIKE);
            DUE.is("hands 3 of kind " + kind, x.hands(1, 3), WaitingNets.BAD);
            DUE.asks("told as 1", x, x.told(1, 2), 1, 1);
        }
        for (int c : NO_COUNTERS) {
            DUE.is("hands of " + c, x.hands(c, 1), WaitingNets.BAD);
        }
    }

    private static void room() {
        WaitingNets x = new WaitingNets();
        DUE.finds("room of none", x, x.room(0, 2), Due.NOTHING);
        x.counter(0, 5);
        DUE.is("room 6", x.room(0, 6), 1);
        DUE.is("room 1", x.room(0, 1), 6);
        DUE.is("room 0", x.room(0, 0), WaitingNets.BAD);
        DUE.is("room 7", x.room(0, 7), WaitingNets.BAD);
        for (int kind = 0; kind <= 4; kind++) {
            x.counter(1, kind);
            DUE.finds("room of kind " + kind, x, x.room(1, 1), Due.UNLIKE);
        }
        for (int c : NO_COUNTERS) {
            DUE.is("room of " + c, x.room(c, 1), WaitingNets.BAD);
        }
    }

    private static void way() {
        WaitingNets x = new WaitingNets();
        x.counter(0, 0);
        DUE.finds("to none", x, x.way(0, 1, 1), Due.NOTHING);
        DUE.finds("from none", x, x.way(1, 0, 1), Due.NOTHING);
        x.counter(1, 4);
        DUE.is("way", x.way(0, 1, 3), 0);
        DUE.is("way more", x.way(0, 1, 4), 3);
        DUE.is("way too many", x.way(0, 0, 1), WaitingNets.STATE);
        DUE.is("way 0 is never too many", x.way(0, 0, 0), 0);
        DUE.is("way less", x.way(0, 1, 2), 4);
        DUE.is("way to itself", x.way(0, 0, 2), 0);
        DUE.is("way past 4", x.way(0, 1, 3), WaitingNets.STATE);
        DUE.is("way as it was", x.way(0, 1, 2), 2);
        DUE.is("quarters 5", x.way(0, 1, 5), WaitingNets.BAD);
        DUE.is("quarters -1", x.way(0, 1, -1), WaitingNets.BAD);
        for (int c : NO_COUNTERS) {
            DUE.is("from " + c, x.way(c, 0, 1), WaitingNets.BAD);
            DUE.is("to " + c, x.way(0, c, 1), WaitingNets.BAD);
        }
        DUE.is("ways", x.count(3), 2);
        x.way(0, 0, 4);
        DUE.finds("NOTHING is told ahead of STATE", x, x.way(0, 2, 1), Due.NOTHING);
    }

    private static void comes() {
        WaitingNets x = new WaitingNets();
        DUE.finds("comes to none", x, x.comes(3, 2), Due.NOTHING);
        x.counter(3, 5);
        DUE.is("comes 9", x.comes(3, 9), 0);
        DUE.is("comes 0", x.comes(3, 0), 9);
        DUE.is("comes 10", x.comes(3, 10), WaitingNets.BAD);
        DUE.is("comes -1", x.comes(3, -1), WaitingNets.BAD);
        for (int c : NO_COUNTERS) {
            DUE.is("comes to " + c, x.comes(c, 1), WaitingNets.BAD);
        }
    }

    private static void told() {
        WaitingNets x = new WaitingNets();
        DUE.finds("told of none", x, x.told(1, 0), Due.NOTHING);
        x.counter(1, 0);
        x.rate(1, 6);
        x.hands(1, 2);
        x.comes(1, 8);
        x.way(1, 1, 3);
        int[] due = {0, 6, 2, 8, 1};
        for (int what = 0; what < due.length; what++) {
            DUE.asks("told " + what, x, x.told(1, what), 1, due[what]);
        }
        DUE.is("told 5", x.told(1, 5), WaitingNets.BAD);
        DUE.is("told -1", x.told(1, -1), WaitingNets.BAD);
        DUE.is("asked stays", x.asked(), 1);
        for (int c : NO_COUNTERS) {
            DUE.is("told of " + c, x.told(c, 0), WaitingNets.BAD);
        }
    }

    private static void mark() {
        WaitingNets x = new WaitingNets();
        DUE.finds("mark of none", x, x.mark(0, 1), Due.NOTHING);
        // The rows are KINDS 0 to 5, the columns what is asked, 1 to 5; -3: it IS not of that KIND.
        int[][] due = {
            {-3, -3, -3, -3, -3}, {6, -3, -3, -3, -3}, {6, 2, -3, -3, -3},
            {6, -3, 2, -3, -3}, {-3, -3, -3, 5, -3}, {-3, -3, -3, -3, 1}};
        for (int kind = 0; kind <= 5; kind++) {
            x.counter(0, kind);
            x.counter(1, 0);
            x.rate(0, 6);
            x.way(0, 0, 1);
            x.way(1, 0, 4);
            x.way(0, 1, 2);
            for (int asked = 1; asked <= 5; asked++) {
                int want = due[kind][asked - 1];
                int got = x.mark(0, asked);
                DUE.is("mark " + asked + " of kind " + kind, got, want);
                if (want == -3) {
                    DUE.is("mark finding", x.finding(), Due.UNLIKE);
                }
            }
        }
        x.counter(2, 3);
        DUE.is("12 by 1", x.mark(2, 3), 12);
        x.counter(2, 2);
        DUE.is("no ways", x.mark(2, 2), 0);
        DUE.is("mark kind 0", x.mark(0, 0), WaitingNets.BAD);
        DUE.is("mark kind 6", x.mark(0, 6), WaitingNets.BAD);
        DUE.is("mark kind -1", x.mark(0, -1), WaitingNets.BAD);
        DUE.is("mark kind 0 of none", x.mark(3, 0), WaitingNets.BAD);
        for (int c : NO_COUNTERS) {
            DUE.is("mark of " + c, x.mark(c, 1), WaitingNets.BAD);
        }
    }

    private static void product() {
        WaitingNets x = new WaitingNets();
        DUE.is("product without counters", x.product(), 1);
        for (int kind = 0; kind <= 3; kind++) {
            x.counter(kind, kind);
        }
        DUE.is("product", x.product(), 1);
        x.counter(3, 4);
        DUE.is("with a RANKED one", x.product(), 0);
        x.counter(3, 5);
        DUE.is("with a ROOMED one", x.product(), 0);
        x.drop(3);
        DUE.is("without it", x.product(), 1);
    }
}
