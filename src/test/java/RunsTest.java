/** Promises 36 and 37: runs by told ROWS. */
public final class RunsTest {
    private static final Due DUE = new Due("RunsTest");

    public static void main(String[] args) {
        oneHand();
        twoHands();
        edges();
        refused();
        unlike();
        DUE.end();
    }

    private static void holds(WaitingNets x, int... minutes) {
        for (int i = 0; i < minutes.length; i++) {
            DUE.asks("waited " + i, x, x.waited(0, 0, 1, i), 1, minutes[i]);
        }
    }

    private static void oneHand() {
        WaitingNets x = new WaitingNets();
        x.counter(0, 0);
        x.rate(0, 12);
        Due.lay(x, 0, 3, 3, 5, 20, 21);
        Due.lay(x, 1, 4, 2, 1, 1, 9);
        holds(x, 0, 4, 4, 0, 0);
        DUE.tells("seen", x, x.seen(0, 0, 1), 5, 8, 5);
        DUE.finds("thing 5", x, x.waited(0, 0, 1, 5), Due.BEYOND);
        DUE.finds("thing -1", x, x.waited(0, 0, 1, -1), Due.BEYOND);
        DUE.is("asked stays", x.asked(), 0);
    }

    private static void twoHands() {
        WaitingNets x = new WaitingNets();
        x.counter(0, 0);
        x.hands(0, 2);
        Due.lay(x, 0, 0, 0, 1, 5, 5, 20);
        Due.lay(x, 1, 4, 3, 3, 2, 10, 1);
        holds(x, 0, 0, 2, 0, 1, 0);
        DUE.tells("seen", x, x.seen(0, 0, 1), 6, 1, 2);
        Due.lay(x, 0, 0, 0, 0, 0, 0);
        Due.lay(x, 1, 5, 5, 1, 1, 1);
        holds(x, 0, 0, 5, 5, 6);
    }

    private static void edges() {
        WaitingNets x = new WaitingNets();
        x.counter(0, 0);
        x.row(0, 0);
        x.row(1, 0);
        DUE.finds("none seen", x, x.seen(0, 0, 1), Due.NOUGHT);
        DUE.finds("none waited", x, x.waited(0, 0, 1, 0), Due.BEYOND);
        x.row(0, 40);
        x.row(1, 40);
        for (int i = 0; i < 40; i++) {
            x.lay(0, i, 100000);
            x.lay(1, i, 1000);
        }
        DUE.asks("the last of forty", x, x.waited(0, 0, 1, 39), 1, 39000);
        DUE.tells("seen of forty", x, x.seen(0, 0, 1), 40, 19500, 1);
        Due.lay(x, 2, 1, 2, 3);
        DUE.tells("one ROW for both", x, x.seen(0, 2, 2), 3, 1, 3);
        Due.lay(x, 2, 7);
        DUE.tells("none waits", x, x.seen(0, 2, 2), 1, 0, 1);
    }

    private static void refused() {
        WaitingNets x = new WaitingNets();
        for (int wrong : new int[] {-1, 6, Integer.MIN_VALUE, Integer.MAX_VALUE}) {
            DUE.is("waited come", x.waited(0, wrong, 0, 0), WaitingNets.BAD);
            DUE.is("waited served", x.waited(0, 0, wrong, 0), WaitingNets.BAD);
            DUE.is("seen come", x.seen(0, wrong, 0), WaitingNets.BAD);
            DUE.is("seen served", x.seen(0, 0, wrong), WaitingNets.BAD);
        }
        for (int wrong : new int[] {-1, 4, Integer.MIN_VALUE, Integer.MAX_VALUE}) {
            DUE.is("waited counter", x.waited(wrong, 0, 0, 0), WaitingNets.BAD);
            DUE.is("seen counter", x.seen(wrong, 0, 0), WaitingNets.BAD);
        }
        x.row(0, 1);
        x.row(1, 2);
        DUE.finds("no counter", x, x.waited(0, 0, 1, 9), Due.NOTHING);
        DUE.finds("no counter seen", x, x.seen(0, 0, 1), Due.NOTHING);
        x.counter(0, 3);
        DUE.finds("no come", x, x.waited(0, 2, 1, 9), Due.NOTHING);
        DUE.finds("no served", x, x.waited(0, 0, 2, 9), Due.NOTHING);
        DUE.finds("no come seen", x, x.seen(0, 2, 1), Due.NOTHING);
        DUE.finds("no served seen", x, x.seen(0, 0, 2), Due.NOTHING);
        DUE.finds("SIZE ahead of UNLIKE", x, x.waited(0, 0, 1, 9), Due.SIZE);
        DUE.finds("SIZE ahead of UNLIKE, seen", x, x.seen(0, 0, 1), Due.SIZE);
        x.row(0, 0);
        x.row(1, 0);
        DUE.finds("UNLIKE ahead of BEYOND", x, x.waited(0, 0, 1, 9), Due.UNLIKE);
        DUE.finds("UNLIKE ahead of NOUGHT", x, x.seen(0, 0, 1), Due.UNLIKE);
    }

    private static void unlike() {
        WaitingNets x = new WaitingNets();
        int[][] come = {{-1, 0}, {0, 100001}, {5, 4}, {0, 0}, {0, 0}};
        int[][] served = {{1, 1}, {1, 1}, {1, 1}, {0, 1}, {1, 1001}};
        x.counter(0, 0);
        for (int k = 0; k < come.length; k++) {
            Due.lay(x, 0, come[k]);
            Due.lay(x, 1, served[k]);
            DUE.finds("waited " + k, x, x.waited(0, 0, 1, 0), Due.UNLIKE);
            DUE.finds("seen " + k, x, x.seen(0, 0, 1), Due.UNLIKE);
        }
        Due.lay(x, 0, 0, 100000);
        Due.lay(x, 1, 1, 1000);
        DUE.is("all fine", x.seen(0, 0, 1), 2);
        for (int kind = 1; kind <= 5; kind++) {
            x.counter(0, kind);
            DUE.finds("waited kind " + kind, x, x.waited(0, 0, 1, 0), Due.UNLIKE);
            DUE.finds("seen kind " + kind, x, x.seen(0, 0, 1), Due.UNLIKE);
        }
    }
}
