import java.util.Random;

/** Runs of calls drawn from a fixed seed, on the class and on PlainModel, held against each other. */
public final class PlainModelTest {
    private static final Due DUE = new Due("PlainModelTest");
    private static final int[] RATES = {1, 2, 3, 4, 6, 12};
    private static final int RUNS = 1200, CALLS = 512;

    private final Random dice;
    private final WaitingNets x = new WaitingNets();
    private final PlainModel m = new PlainModel();
    private final int theme;
    private int calls = 0;

    private PlainModelTest(long seed) {
        dice = new Random(seed);
        theme = (int) (seed % 5);
    }

    public static void main(String[] args) {
        for (int seed = 0; seed < RUNS; seed++) {
            new PlainModelTest(seed).run();
        }
        DUE.end();
    }

    private void run() {
        while (calls < CALLS) {
            int kind = dice.nextInt(12);
            if (kind == 0) {
                anyCall();
            } else if (theme == 0 || kind == 1) {
                openNet();
            } else if (theme == 1 || kind == 2) {
                closedNet();
            } else if (theme == 2 || kind == 3) {
                chains();
            } else if (theme == 3 || kind == 4) {
                runs();
            } else {
                anyCall();
            }
        }
    }

    private void same(String call, long got, long want) {
        calls++;
        DUE.is(call, got, want);
        DUE.is(call + " asked", x.asked(), m.asked);
        DUE.is(call + " upper", x.upper(), m.told.up.longValueExact());
        DUE.is(call + " lower", x.lower(), m.told.low.longValueExact());
        DUE.is(call + " finding", x.finding(), m.finding);
        DUE.is(call + " digest", x.digest(), m.digest());
        DUE.is(call + " findings", x.findings(calls % 7), m.findings(calls % 7));
        DUE.is(call + " count", x.count(calls % 6 - 1), m.count(calls % 6 - 1));
    }

    /** Mostly from least to most, seldom beside it. */
    private int about(int least, int most) {
        int luck = dice.nextInt(60);
        if (luck == 0) return least - 1;
        if (luck == 1) return most + 1;
        if (luck == 2) return dice.nextBoolean() ? Integer.MIN_VALUE : Integer.MAX_VALUE;
        return least + dice.nextInt(most - least + 1);
    }

    private int aRow() {
        return about(0, 5);
    }

    private int aCounter() {
        return about(0, 3);
    }

    private int aRate() {
        return dice.nextInt(40) == 0 ? about(0, 13) : RATES[dice.nextInt(6)];
    }

    private void setCounter(int c, int kind) {
        same("counter(" + c + ", " + kind + ")", x.counter(c, kind), m.counter(c, kind));
    }

    private void setRate(int c, int v) {
        same("rate(" + c + ", " + v + ")", x.rate(c, v), m.rate(c, v));
    }

    private void setHands(int c, int v) {
        same("hands(" + c + ", " + v + ")", x.hands(c, v), m.hands(c, v));
    }

    private void setWay(int from, int to, int q) {
        same("way(" + from + ", " + to + ", " + q + ")", x.way(from, to, q), m.way(from, to, q));
    }

    private void setComes(int c, int many) {
        same("comes(" + c + ", " + many + ")", x.comes(c, many), m.comes(c, many));
    }

    private void setRow(int r, int n) {
        same("row(" + r + ", " + n + ")", x.row(r, n), m.row(r, n));
    }

    private void setPlace(int r, int i, int v) {
        same("lay(" + r + ", " + i + ", " + v + ")", x.lay(r, i, v), m.lay(r, i, v));
    }

    private void openNet() {
        for (int c = 0; c < 4; c++) {
            if (dice.nextInt(4) > 0) setCounter(c, dice.nextInt(dice.nextInt(8) == 0 ? 6 : 4));
        }
        for (int c = 0; c < 4; c++) {
            setRate(c, aRate());
            if (dice.nextInt(3) == 0) setHands(c, about(1, 2));
            if (dice.nextInt(2) == 0) setComes(c, dice.nextInt(dice.nextBoolean() ? 3 : 10));
            for (int o = 0; o < 3; o++) setWay(c, dice.nextInt(4), dice.nextInt(dice.nextInt(3) == 0 ? 5 : 3));
        }
        askOpen();
        if (dice.nextBoolean()) setComes(dice.nextInt(4), 0);
        askOpen();
    }

    private void askOpen() {
        same("kept()", x.kept(), m.kept());
        same("product()", x.product(), m.product());
        same("closed()", x.closed(), m.closed());
        for (int c = 0; c < 4; c++) {
            same("flow(" + c + ")", x.flow(c), m.flow(c));
            same("use(" + c + ")", x.use(c), m.use(c));
            same("mean(" + c + ", false)", x.mean(c, false), m.mean(c, false));
            same("mean(" + c + ", true)", x.mean(c, true), m.mean(c, true));
        }
    }

    private void closedNet() {
        boolean[] there = new boolean[4];
        for (int c = 0; c < 4; c++) {
            there[c] = dice.nextInt(4) > 0;
            if (there[c]) {
                setCounter(c, dice.nextInt(3) == 0 ? dice.nextInt(4) : 0);
            } else {
                same("drop(" + c + ")", x.drop(c), m.drop(c));
            }
        }
        for (int c = 0; c < 4; c++) {
            if (!there[c]) continue;
            setRate(c, RATES[dice.nextInt(6)]);
            if (dice.nextInt(4) == 0) setHands(c, 2);
            sendAll(c, there);
        }
        if (dice.nextInt(20) == 0) setComes(dice.nextInt(4), 1);
        askClosed();
    }

    private void sendAll(int c, boolean[] there) {
        int[] quarters = new int[4];
        for (int left = 4; left > 0;) {
            int to = dice.nextInt(3) == 0 ? (c + 1) % 4 : dice.nextInt(4);
            if (there[to]) {
                int more = 1 + dice.nextInt(left);
                quarters[to] += more;
                left -= more;
            }
        }
        for (int to = 0; to < 4; to++) {
            if (quarters[to] > 0) setWay(c, to, quarters[to]);
        }
    }

    private void askClosed() {
        same("closed()", x.closed(), m.closed());
        same("narrow()", x.narrow(), m.narrow());
        int n = about(1, 4);
        for (int c = 0; c < 4; c++) {
            same("visits(" + c + ")", x.visits(c), m.visits(c));
            same("through(" + c + ", " + n + ")", x.through(c, n), m.through(c, n));
            same("meanOf(" + c + ", " + n + ")", x.meanOf(c, n), m.meanOf(c, n));
            same("round(" + c + ", " + n + ")", x.round(c, n), m.round(c, n));
            same("bound(" + c + ", " + n + ")", x.bound(c, n), m.bound(c, n));
        }
        same("best(" + n + ")", x.best(n), m.best(n));
        same("balance(" + n + ")", x.balance(n), m.balance(n));
        setRow(0, dice.nextInt(12) == 0 ? about(3, 5) : 4);
        for (int k = 0; k < 3; k++) setPlace(0, about(0, 3), dice.nextInt(20) == 0 ? about(-1, 5) : dice.nextInt(3));
        same("chance(0)", x.chance(0), m.chance(0));
    }

    private void chains() {
        int n = 2 + dice.nextInt(5);
        int sparse = dice.nextInt(5);
        setRow(1, dice.nextInt(20) == 0 ? about(0, 40) : n * n);
        for (int k = 0; k < n * n; k++) {
            int rate = dice.nextInt(5) < sparse ? 0 : 1 + dice.nextInt(12);
            if (rate > 0) setPlace(1, k, dice.nextInt(300) == 0 ? about(-1, 13) : rate);
        }
        same("parts(1)", x.parts(1), m.parts(1));
        for (int i = 0; i < n; i++) same("lasting(1, " + i + ")", x.lasting(1, i), m.lasting(1, i));
        int beside = about(-1, 6);
        same("lasting(1, " + beside + ")", x.lasting(1, beside), m.lasting(1, beside));
        setRow(2, dice.nextInt(20) == 0 ? about(0, 7) : n);
        // The chances themselves, where they have one small lower number, are judged as well as others.
        boolean lasting = dice.nextBoolean();
        for (int i = 0; i < n; i++) {
            int v = lasting ? share(n, i) : dice.nextInt(3) * dice.nextInt(500001);
            setPlace(2, i, v);
        }
        same("judge(1, 2)", x.judge(1, 2), m.judge(1, 2));
    }

    private int share(int n, int i) {
        if (m.rows[1] == null || m.rows[1].length != n * n) return 1;
        PlainModel probe = new PlainModel();
        probe.rows[1] = m.rows[1].clone();
        java.math.BigInteger low = java.math.BigInteger.ONE;
        for (int k = 0; k < n; k++) {
            if (probe.lasting(1, k) != 1) return k;
            low = low.multiply(probe.told.low).divide(low.gcd(probe.told.low));
        }
        probe.lasting(1, i);
        java.math.BigInteger v = probe.told.up.multiply(low).divide(probe.told.low);
        return v.bitLength() < 31 ? v.intValue() : 1000001;
    }

    private void runs() {
        int c = aCounter();
        setCounter(c, dice.nextInt(15) == 0 ? about(0, 5) : 0);
        if (dice.nextBoolean()) setHands(c, 2);
        int n = dice.nextInt(10) == 0 ? 0 : dice.nextInt(dice.nextInt(5) == 0 ? 41 : 8);
        setRow(3, n);
        setRow(4, dice.nextInt(15) == 0 ? about(0, 8) : n);
        int minute = 0;
        for (int i = 0; i < n; i++) {
            minute += dice.nextInt(4) * dice.nextInt(dice.nextInt(9) == 0 ? 4000 : 6);
            setPlace(3, i, dice.nextInt(90) == 0 ? about(0, 100000) : minute);
            setPlace(4, i, dice.nextInt(90) == 0 ? about(0, 1001) : 1 + dice.nextInt(12));
        }
        for (int i = -1; i <= n && i < 10; i++) askWaited(c, 3, 4, i);
        same("seen(" + c + ", 3, 4)", x.seen(c, 3, 4), m.seen(c, 3, 4));
    }

    private void askWaited(int c, int come, int served, int i) {
        same("waited(" + c + ", " + come + ", " + served + ", " + i + ")",
            x.waited(c, come, served, i), m.waited(c, come, served, i));
    }

    private void anyCall() {
        int c = aCounter();
        int r = aRow();
        int n = about(1, 4);
        switch (dice.nextInt(34)) {
            case 0 -> setRow(r, dice.nextInt(3) == 0 ? about(0, 40) : new int[] {4, 9, 16, 2, 3, 4}[dice.nextInt(6)]);
            case 1, 2, 3, 4 -> setPlace(r, about(0, 8), dice.nextInt(6) == 0 ? dice.nextInt() : dice.nextInt(5));
            case 5 -> same("tear(" + r + ")", x.tear(r), m.tear(r));
            case 6, 7 -> anyCopy(r);
            case 8 -> same("average(" + r + ")", x.average(r), m.average(r));
            case 9, 10 -> setCounter(c, about(0, 5));
            case 11 -> same("drop(" + c + ")", x.drop(c), m.drop(c));
            case 12 -> setRate(c, aRate());
            case 13 -> setHands(c, about(1, 2));
            case 14, 15 -> anyRoom(c);
            case 16, 17 -> setWay(c, aCounter(), about(0, 4));
            case 18 -> setComes(c, about(0, 9));
            case 19, 20 -> anyTold(c);
            case 21, 22 -> anyMark(c);
            case 23 -> askOpen();
            case 24 -> askClosed();
            case 25, 26, 27 -> anyRanked(c);
            case 28, 29, 30 -> anyRoomed(c);
            case 31 -> anyJudge(r);
            case 32 -> askWaited(c, r, aRow(), about(0, 4));
            default -> anyMeasure(c, n, r);
        }
    }

    private void anyCopy(int r) {
        int to = dice.nextInt(3) == 0 ? r : aRow();
        int i = about(0, 4);
        int j = about(0, 4);
        int n = about(0, 4);
        same("copy(" + r + ", " + i + ", " + to + ", " + j + ", " + n + ")",
            x.copy(r, i, to, j, n), m.copy(r, i, to, j, n));
    }

    private void anyRoom(int c) {
        int v = about(1, 6);
        same("room(" + c + ", " + v + ")", x.room(c, v), m.room(c, v));
    }

    private void anyTold(int c) {
        int what = about(0, 4);
        same("told(" + c + ", " + what + ")", x.told(c, what), m.told(c, what));
    }

    private void anyMark(int c) {
        int kind = about(0, 5);
        same("mark(" + c + ", " + kind + ")", x.mark(c, kind), m.mark(c, kind));
    }

    private void anyRanked(int c) {
        if (dice.nextBoolean()) {
            setCounter(c, 4);
            setRate(c, aRate());
        }
        int a = about(0, dice.nextBoolean() ? 9 : 3);
        int b = about(0, dice.nextBoolean() ? 9 : 3);
        int which = about(0, 1);
        boolean breaking = dice.nextBoolean();
        same("ranked(" + c + ", " + a + ", " + b + ", " + breaking + ", " + which + ")",
            x.ranked(c, a, b, breaking, which), m.ranked(c, a, b, breaking, which));
    }

    private void anyRoomed(int c) {
        if (dice.nextBoolean()) {
            setCounter(c, 5);
            setRate(c, aRate());
            anyRoom(c);
        }
        int a = about(1, 9);
        int i = about(-1, 6);
        same("roomed(" + c + ", " + a + ", " + i + ")", x.roomed(c, a, i), m.roomed(c, a, i));
    }

    private void anyJudge(int r) {
        int chances = aRow();
        same("judge(" + r + ", " + chances + ")", x.judge(r, chances), m.judge(r, chances));
        int i = about(0, 5);
        same("lasting(" + r + ", " + i + ")", x.lasting(r, i), m.lasting(r, i));
        same("parts(" + r + ")", x.parts(r), m.parts(r));
    }

    private void anyMeasure(int c, int n, int r) {
        same("visits(" + c + ")", x.visits(c), m.visits(c));
        same("chance(" + r + ")", x.chance(r), m.chance(r));
        same("flow(" + c + ")", x.flow(c), m.flow(c));
        same("use(" + c + ")", x.use(c), m.use(c));
        same("mean(" + c + ", true)", x.mean(c, true), m.mean(c, true));
        same("through(" + c + ", " + n + ")", x.through(c, n), m.through(c, n));
        int served = aRow();
        same("seen(" + c + ", " + r + ", " + served + ")", x.seen(c, r, served), m.seen(c, r, served));
    }
}
