/** Promises 38 to 44: what is told. */
public final class ToldTest {
    private static final Due DUE = new Due("ToldTest");

    public static void main(String[] args) {
        asked();
        fraction();
        count();
        findings();
        digest();
        digestOfRows();
        DUE.end();
    }

    private static void asked() {
        WaitingNets x = new WaitingNets();
        DUE.is("before", x.asked(), 0);
        x.row(0, 4);
        x.lay(0, 0, 8);
        x.lay(0, 0, 4);
        DUE.is("by lay", x.asked(), 8);
        x.average(0);
        DUE.is("by average", x.asked(), 1);
        x.counter(0, 0);
        x.rate(0, 6);
        DUE.is("not by rate", x.asked(), 1);
        x.told(0, 1);
        DUE.is("by told", x.asked(), 6);
        x.parts(0);
        DUE.is("by parts", x.asked(), 1);
        Due.lay(x, 1, 0, 0);
        Due.lay(x, 2, 7, 7);
        x.waited(0, 1, 2, 1);
        DUE.is("by waited", x.asked(), 7);
        x.lay(0, 9, 1);
        x.lay(9, 0, 1);
        x.average(9);
        x.told(3, 0);
        x.parts(1);
        x.waited(0, 1, 2, 2);
        x.seen(0, 1, 2);
        DUE.is("not by what is refused, nor by seen", x.asked(), 7);
    }

    private static void fraction() {
        WaitingNets x = new WaitingNets();
        DUE.is("upper before", x.upper(), 0);
        DUE.is("lower before", x.lower(), 1);
        x.counter(0, 0);
        x.rate(0, 12);
        x.comes(0, 8);
        DUE.tells("in lowest terms", x, x.use(0), 0, 2, 3);
        DUE.is("refused", x.flow(1), WaitingNets.FINDING);
        DUE.is("upper stays", x.upper(), 2);
        DUE.is("lower stays", x.lower(), 3);
        x.counter(1, 0);
        DUE.tells("0 by 1", x, x.use(1), 0, 0, 1);
    }

    private static void count() {
        WaitingNets x = new WaitingNets();
        x.row(0, 3);
        x.row(5, 0);
        DUE.is("rows", x.count(0), 2);
        x.tear(0);
        DUE.is("rows less", x.count(0), 1);
        for (int c = 0; c < 4; c++) {
            x.counter(c, c);
        }
        DUE.is("counters", x.count(1), 4);
        DUE.is("hands, ENDLESS aside", x.count(2), 3);
        x.hands(0, 2);
        DUE.is("hands more", x.count(2), 4);
        x.counter(1, 4);
        x.counter(2, 5);
        DUE.is("RANKED and ROOMED have a hand", x.count(2), 4);
        x.way(0, 0, 1);
        x.way(0, 1, 1);
        x.way(3, 0, 4);
        x.way(1, 0, 0);
        DUE.is("ways", x.count(3), 3);
        x.way(0, 0, 0);
        DUE.is("ways less", x.count(3), 2);
        x.drop(0);
        DUE.is("ways gone", x.count(3), 0);
        DUE.is("counters less", x.count(1), 3);
        DUE.is("hands less", x.count(2), 2);
        for (int what : new int[] {-1, 4, Integer.MIN_VALUE, Integer.MAX_VALUE}) {
            DUE.is("count " + what, x.count(what), WaitingNets.BAD);
        }
    }

    private static void findings() {
        WaitingNets x = new WaitingNets();
        x.row(0, 2);
        x.counter(0, 0);
        x.tear(1);
        x.tear(1);
        DUE.is("NOTHING", x.finding(), 1);
        x.lay(0, 2, 0);
        DUE.is("BEYOND", x.finding(), 2);
        x.room(0, 2);
        DUE.is("UNLIKE", x.finding(), 3);
        x.mean(0, true);
        DUE.is("NOUGHT", x.finding(), 4);
        x.row(0, -1);
        DUE.is("SIZE", x.finding(), 5);
        x.row(9, 0);
        x.best(1);
        x.lay(0, 0, 1);
        DUE.is("neither BAD nor STATE nor what is well", x.finding(), 5);
        int[] due = {2, 1, 1, 1, 1};
        for (int f = 1; f <= 5; f++) {
            DUE.is("findings " + f, x.findings(f), due[f - 1]);
        }
        for (int f : new int[] {0, 6, -1, Integer.MIN_VALUE, Integer.MAX_VALUE}) {
            DUE.is("findings " + f, x.findings(f), WaitingNets.BAD);
        }
    }

    private static long mix(long... numbers) {
        long h = 17;
        for (long v : numbers) {
            h = 31 * h + v;
        }
        return h;
    }

    private static void digest() {
        WaitingNets x = new WaitingNets();
        DUE.is("of a new one", x.digest(), mix(-1, -1, -1, -1, -1, -1, -1, -1, -1, -1));
        x.counter(1, 5);
        x.room(1, 4);
        x.rate(1, 6);
        x.comes(1, 7);
        x.way(1, 1, 3);
        DUE.is("of a ROOMED one", x.digest(),
            mix(-1, 5, 6, 1, 7, 1, 4, 0, 3, 0, 0, -1, -1, -1, -1, -1, -1, -1, -1));
        x.counter(0, 0);
        x.hands(0, 2);
        x.way(1, 0, 1);
        x.way(0, 1, 2);
        DUE.is("of two", x.digest(),
            mix(0, 1, 2, 0, 2, 0, 2, 0, 0, 5, 6, 1, 7, 0, 4, 1, 3, 0, 0, -1, -1, -1, -1, -1, -1, -1, -1));
        x.drop(1);
        DUE.is("of one left", x.digest(),
            mix(0, 1, 2, 0, 4, 0, 0, 0, 0, -1, -1, -1, -1, -1, -1, -1, -1, -1));
    }

    private static void digestOfRows() {
        WaitingNets x = new WaitingNets();
        Due.lay(x, 0, 5, -6);
        Due.lay(x, 5, Integer.MIN_VALUE);
        x.row(2, 0);
        DUE.is("of rows", x.digest(),
            mix(-1, -1, -1, -1, 2, 5, -6, -1, 0, -1, -1, 1, Integer.MIN_VALUE));
        long before = x.digest();
        x.lay(0, 7, 1);
        x.copy(0, 0, 5, 0, 2);
        x.row(0, -1);
        x.rate(0, 2);
        DUE.is("what is refused changes nothing", x.digest(), before);
    }
}
