import java.math.BigInteger;
import java.util.ArrayList;
import java.util.Arrays;
import java.util.List;
import java.util.Random;

/**
 * Answers held against one another. No formula of the document is written here a second time: what comes
 * has to be what leaves, a closed net has to be as the chain of its states, and so on.
 */
public final class LawsTest {
    private static final Due DUE = new Due("LawsTest");
    private static final int[] RATES = {1, 2, 3, 4, 6, 12};
    private static final int SHARED = 1, ENDLESS = 3, RANKED = 4, ROOMED = 5;
    private static final Random DICE = new Random(44);

    /** A net without RANKED and ROOMED ones, kept here to be laid on as many objects as are asked. */
    private static final class Net {
        final int many;
        final int[] kind = new int[4];
        final int[] rate = new int[4];
        final int[] hands = new int[4];
        final int[] comes = new int[4];
        final int[][] ways = new int[4][4];

        Net(int many) {
            this.many = many;
            for (int c = 0; c < many; c++) {
                kind[c] = DICE.nextInt(3) > 0 ? 0 : SHARED + DICE.nextInt(3);
                rate[c] = RATES[DICE.nextInt(6)];
                hands[c] = kind[c] == 0 ? 1 + DICE.nextInt(2) : 1;
            }
        }

        WaitingNets laid() {
            WaitingNets x = new WaitingNets();
            for (int c = 0; c < many; c++) {
                x.counter(c, kind[c]);
                x.rate(c, rate[c]);
                x.hands(c, hands[c]);
                x.comes(c, comes[c]);
            }
            for (int from = 0; from < many; from++) {
                for (int to = 0; to < many; to++) {
                    x.way(from, to, ways[from][to]);
                }
            }
            return x;
        }

        void send(int c, int quarters) {
            for (int q = 0; q < quarters; q++) {
                ways[c][DICE.nextInt(many)]++;
            }
        }

        int leaving(int c) {
            return 4 - ways[c][0] - ways[c][1] - ways[c][2] - ways[c][3];
        }

        int busy(int c, int things) {
            return kind[c] == ENDLESS ? things : Math.min(things, hands[c]);
        }
    }

    public static void main(String[] args) {
        for (int run = 0; run < 1500; run++) {
            openNet(open());
        }
        for (int run = 0; run < 400; run++) {
            Net net = closed(1 + DICE.nextInt(4));
            for (int n = 1; n <= 4; n++) {
                closedNet(net, n);
            }
        }
        closedAsChains();
        roomedAsChains();
        rankedTogether();
        for (int run = 0; run < 600; run++) {
            run(1 + DICE.nextInt(40), 1 + DICE.nextInt(2));
        }
        DUE.end();
    }

    private static PlainModel.Ratio number(long number) {
        return PlainModel.Ratio.of(number);
    }

    /** The fraction that was told, which has to be in lowest terms. */
    private static PlainModel.Ratio told(WaitingNets x) {
        long up = x.upper();
        long low = x.lower();
        long common = BigInteger.valueOf(up).gcd(BigInteger.valueOf(low)).longValueExact();
        DUE.is("the lowest terms of " + up + " by " + low, common, 1);
        DUE.is("the lower number is above 0", low > 0 ? 1 : 0, 1);
        return PlainModel.Ratio.of(up, low);
    }

    private static void same(String what, PlainModel.Ratio a, PlainModel.Ratio b) {
        DUE.is(what + ": " + a.up + " by " + a.low + " as " + b.up + " by " + b.low, a.compareTo(b), 0);
    }

    private static PlainModel.Ratio asked(WaitingNets x, String call, long answer) {
        DUE.is(call, answer, 1);
        return told(x);
    }

    // ---- open nets

    private static Net open() {
        Net net = new Net(1 + DICE.nextInt(4));
        for (int c = 0; c < net.many; c++) {
            net.send(c, DICE.nextInt(5));
            net.comes[c] = DICE.nextBoolean() ? DICE.nextInt(10) : 0;
        }
        return net;
    }

    private static void openNet(Net net) {
        WaitingNets x = net.laid();
        if (x.kept() != 0) {
            for (int c = 0; c < net.many; c++) {
                DUE.is("flow where some are KEPT", x.flow(c), WaitingNets.STATE);
            }
            return;
        }
        PlainModel.Ratio[] flow = new PlainModel.Ratio[net.many];
        PlainModel.Ratio in = PlainModel.Ratio.ZERO;
        PlainModel.Ratio out = PlainModel.Ratio.ZERO;
        for (int c = 0; c < net.many; c++) {
            flow[c] = asked(x, "flow", x.flow(c));
            in = in.plus(number(net.comes[c]));
            out = out.plus(flow[c].times(PlainModel.Ratio.of(net.leaving(c), 4)));
        }
        same("what comes to the net, what leaves it", in, out);
        for (int c = 0; c < net.many; c++) {
            PlainModel.Ratio here = number(net.comes[c]);
            for (int from = 0; from < net.many; from++) {
                here = here.plus(flow[from].times(PlainModel.Ratio.of(net.ways[from][c], 4)));
            }
            same("what comes to a COUNTER, its FLOW", here, flow[c]);
            openCounter(net, c, flow[c]);
        }
    }

    private static void openCounter(Net net, int c, PlainModel.Ratio flow) {
        WaitingNets x = net.laid();
        int full = x.use(c);
        PlainModel.Ratio use = told(x);
        same("USE, RATE and HANDS give FLOW", use.times(number((long) net.rate[c] * net.hands[c])), flow);
        DUE.is("FULL", full, net.kind[c] != ENDLESS && use.compareTo(PlainModel.Ratio.ONE) >= 0 ? 1 : 0);
        if (full == 1) {
            DUE.is("MEAN of a FULL one", x.mean(c, false), WaitingNets.STATE);
        } else if (flow.isZero()) {
            same("MEAN where none come", asked(x, "mean", x.mean(c, false)), flow);
            DUE.finds("WAIT where none come", x, x.mean(c, true), Due.NOUGHT);
        } else {
            PlainModel.Ratio mean = asked(x, "mean", x.mean(c, false));
            PlainModel.Ratio wait = asked(x, "wait", x.mean(c, true));
            same("MEAN, FLOW times WAIT", mean, flow.times(wait));
            DUE.is("WAIT is no less than being served",
                wait.compareTo(PlainModel.Ratio.of(1, net.rate[c])) >= 0 ? 1 : 0, 1);
        }
    }

    // ---- closed nets

    /** Tries till all lead to one another. */
    private static Net closed(int many) {
        for (int attempt = 0; attempt < 10000; attempt++) {
            Net net = new Net(many);
            for (int c = 0; c < many; c++) {
                net.send(c, 4);
            }
            if (net.laid().closed() == 1) {
                return net;
            }
        }
        throw new IllegalStateException("no CLOSED net was found");
    }

    private static List<int[]> states(int many, int n) {
        List<int[]> states = new ArrayList<>();
        for (int code = 0; code < 625; code++) {
            int[] s = {code % 5, code / 5 % 5, code / 25 % 5, code / 125};
            boolean inside = s[0] + s[1] + s[2] + s[3] == n;
            for (int c = many; c < 4; c++) {
                inside &= s[c] == 0;
            }
            if (inside) {
                states.add(s);
            }
        }
        return states;
    }

    private static PlainModel.Ratio chance(WaitingNets x, int[] state, int n) {
        for (int c = 0; c < 4; c++) {
            x.lay(0, c, state[c]);
        }
        DUE.is("chance", x.chance(0), n);
        return told(x);
    }

    private static void closedNet(Net net, int n) {
        WaitingNets x = net.laid();
        x.row(0, 4);
        PlainModel.Ratio all = PlainModel.Ratio.ZERO;
        PlainModel.Ratio[] mean = new PlainModel.Ratio[net.many];
        PlainModel.Ratio[] through = new PlainModel.Ratio[net.many];
        Arrays.fill(mean, PlainModel.Ratio.ZERO);
        Arrays.fill(through, PlainModel.Ratio.ZERO);
        List<int[]> states = states(net.many, n);
        for (int[] state : states) {
            PlainModel.Ratio chance = chance(x, state, n);
            all = all.plus(chance);
            for (int c = 0; c < net.many; c++) {
                mean[c] = mean[c].plus(chance.times(number(state[c])));
                through[c] = through[c].plus(chance.times(number((long) net.rate[c] * net.busy(c, state[c]))));
            }
        }
        same("all CHANCES together", all, PlainModel.Ratio.ONE);
        DUE.is("balance", x.balance(n), states.size());
        visits(net);
        narrow(net, through);
        best(net, n);
        for (int c = 0; c < net.many; c++) {
            closedCounter(net, c, n, mean[c], through[c]);
        }
    }

    private static void closedCounter(Net net, int c, int n, PlainModel.Ratio mean, PlainModel.Ratio through) {
        WaitingNets x = net.laid();
        same("MEAN, by CHANCES", asked(x, "meanOf", x.meanOf(c, n)), mean);
        same("THROUGH, by what hands do", asked(x, "through", x.through(c, n)), through);
        same("ROUND times THROUGH", asked(x, "round", x.round(c, n)).times(through), number(n));
        PlainModel.Ratio bound = asked(x, "bound", x.bound(c, n));
        DUE.is("THROUGH within BOUND", through.compareTo(bound) <= 0 ? 1 : 0, 1);
        if (n == 1) {
            same("one thing waits for none", bound, through);
        }
    }

    private static void visits(Net net) {
        WaitingNets x = net.laid();
        BigInteger common = BigInteger.ZERO;
        for (int c = 0; c < net.many; c++) {
            long come = 0;
            for (int from = 0; from < net.many; from++) {
                come += (long) x.visits(from) * net.ways[from][c];
            }
            DUE.is("VISITS that come, four times", come, 4L * x.visits(c));
            common = common.gcd(BigInteger.valueOf(x.visits(c)));
        }
        DUE.is("the common part of VISITS", common.longValueExact(), 1);
    }

    /** NARROW is where the greatest part of the hands is busy. */
    private static void narrow(Net net, PlainModel.Ratio[] through) {
        int narrow = WaitingNets.NONE;
        PlainModel.Ratio greatest = PlainModel.Ratio.ZERO;
        for (int c = 0; c < net.many; c++) {
            PlainModel.Ratio busy = through[c].by(number((long) net.rate[c] * net.hands[c]));
            if (net.kind[c] != ENDLESS && busy.compareTo(greatest) > 0) {
                narrow = c;
                greatest = busy;
            }
        }
        DUE.is("narrow", net.laid().narrow(), narrow);
    }

    /** BEST against nets that do have the hand more. */
    private static void best(Net net, int n) {
        int best = WaitingNets.NONE;
        PlainModel.Ratio greatest = PlainModel.Ratio.ZERO;
        for (int c = 0; c < net.many; c++) {
            if (net.kind[c] == 0 && net.hands[c] == 1) {
                WaitingNets x = net.laid();
                x.hands(c, 2);
                PlainModel.Ratio through = asked(x, "through", x.through(0, n));
                if (through.compareTo(greatest) > 0) {
                    best = c;
                    greatest = through;
                }
            }
        }
        WaitingNets x = net.laid();
        DUE.is("best", x.best(n), best);
        same("what goes through then", told(x), greatest);
        DUE.is("HANDS are as they were", x.digest(), net.laid().digest());
    }

    // ---- closed nets and rooms as chains

    private static void closedAsChains() {
        int held = 0;
        for (int run = 0; run < 4000; run++) {
            int many = 2 + DICE.nextInt(3);
            int n = 1 + DICE.nextInt(many == 2 ? 4 : many == 3 ? 2 : 1);
            Net net = closed(many);
            for (int c = 0; c < many; c++) {
                net.rate[c] = RATES[DICE.nextInt(3)];
            }
            if (closedAsChain(net, n)) {
                held++;
            }
        }
        DUE.is("enough nets had rates up to 12: " + held, held >= 1000 ? 1 : 0, 1);
    }

    /** Four times the rate from one STATE to another one; 0 if no single thing makes the way. */
    private static int rate(Net net, int[] a, int[] b) {
        int from = -1;
        int to = -1;
        int moved = 0;
        for (int c = 0; c < 4; c++) {
            moved += Math.abs(a[c] - b[c]);
            from = a[c] - b[c] == 1 ? c : from;
            to = b[c] - a[c] == 1 ? c : to;
        }
        return moved != 2 || from < 0 || to < 0 ? 0 : net.rate[from] * net.busy(from, a[from]) * net.ways[from][to];
    }

    private static boolean closedAsChain(Net net, int n) {
        List<int[]> states = states(net.many, n);
        int side = states.size();
        int[] rates = new int[side * side];
        for (int i = 0; i < side; i++) {
            for (int j = 0; j < side; j++) {
                rates[i * side + j] = rate(net, states.get(i), states.get(j));
                if (rates[i * side + j] > 12) {
                    return false;
                }
            }
        }
        WaitingNets x = net.laid();
        x.row(0, 4);
        Due.lay(x, 1, rates);
        DUE.asks("parts of a closed net", x, x.parts(1), 1, (1 << side) - 1);
        PlainModel.Ratio[] chances = new PlainModel.Ratio[side];
        for (int i = 0; i < side; i++) {
            chances[i] = chance(x, states.get(i), n);
            same("CHANCE, LASTING", asked(x, "lasting", x.lasting(1, i)), chances[i]);
        }
        judged(x, rates, chances);
        return true;
    }

    /** ROW 1 is a CHAIN: the chances are claimed, then one more of a state, from which more goes to others. */
    private static void judged(WaitingNets x, int[] rates, PlainModel.Ratio[] chances) {
        BigInteger low = BigInteger.ONE;
        for (PlainModel.Ratio chance : chances) {
            low = low.multiply(chance.low).divide(low.gcd(chance.low));
        }
        if (low.bitLength() >= 19) {
            return;
        }
        int[] claim = new int[chances.length];
        for (int i = 0; i < claim.length; i++) {
            claim[i] = chances[i].up.multiply(low).divide(chances[i].low).intValueExact();
        }
        Due.lay(x, 2, claim);
        DUE.is("a claim that holds", x.judge(1, 2), WaitingNets.NONE);
        int last = claim.length - 1;
        int first = 0;
        while (rates[last * claim.length + first] == 0) {
            first++;
        }
        x.lay(2, last, claim[last] + 1);
        DUE.is("the first to which more comes", x.judge(1, 2), first);
        x.lay(2, last, claim[last]);
        x.lay(2, 0, claim[0] + 1);
        DUE.is("the first from which more goes", x.judge(1, 2), 0);
    }

    private static void roomedAsChains() {
        for (int r : RATES) {
            for (int room = 1; room <= 6; room++) {
                for (int a = 1; a <= 9; a++) {
                    roomed(r, room, a);
                }
            }
        }
    }

    private static void roomed(int r, int room, int a) {
        WaitingNets x = new WaitingNets();
        x.counter(0, ROOMED);
        x.rate(0, r);
        x.room(0, room);
        int side = room + 1;
        PlainModel.Ratio[] chances = new PlainModel.Ratio[side];
        PlainModel.Ratio all = PlainModel.Ratio.ZERO;
        for (int i = 0; i < side; i++) {
            chances[i] = asked(x, "roomed", x.roomed(0, a, i));
            all = all.plus(chances[i]);
        }
        same("all CHANCES of a ROOMED one", all, PlainModel.Ratio.ONE);
        PlainModel.Ratio lost = asked(x, "lost", x.roomed(0, a, -1));
        PlainModel.Ratio busy = PlainModel.Ratio.ONE.minus(chances[0]);
        same("what is not LOST is served", number(a).minus(lost), number(r).times(busy));
        if (side > 6) {
            return;
        }
        int[] rates = new int[side * side];
        for (int i = 0; i < room; i++) {
            rates[i * side + i + 1] = a;
            rates[(i + 1) * side + i] = r;
        }
        Due.lay(x, 1, rates);
        for (int i = 0; i < side; i++) {
            same("ROOMED, LASTING", asked(x, "lasting", x.lasting(1, i)), chances[i]);
        }
        judged(x, rates, chances);
    }

    // ---- ranks

    /** Both classes together are as things at a COUNTER without ranks, whichever is served first. */
    private static void rankedTogether() {
        for (int r : RATES) {
            for (int a = 0; a < r && a <= 9; a++) {
                for (int b = 0; a + b < r && a + b <= 9; b++) {
                    PlainModel.Ratio both = plain(r, a + b);
                    same("breaking in", ranked(r, a, b, true, 0).plus(ranked(r, a, b, true, 1)), both);
                    same("not breaking in", ranked(r, a, b, false, 0).plus(ranked(r, a, b, false, 1)), both);
                    same("the first breaking in sees no second", ranked(r, a, b, true, 0), plain(r, a));
                }
            }
        }
    }

    private static PlainModel.Ratio plain(int r, int many) {
        WaitingNets x = new WaitingNets();
        x.counter(0, 0);
        x.rate(0, r);
        x.comes(0, many);
        return asked(x, "mean", x.mean(0, false));
    }

    private static PlainModel.Ratio ranked(int r, int a, int b, boolean breaking, int which) {
        WaitingNets x = new WaitingNets();
        x.counter(0, RANKED);
        x.rate(0, r);
        return asked(x, "ranked", x.ranked(0, a, b, breaking, which));
    }

    // ---- runs

    /** Minute by minute: one that waits sees all hands busy, one that is served sees a hand free. */
    private static void run(int many, int hands) {
        int[] come = new int[many];
        int[] served = new int[many];
        for (int i = 0; i < many; i++) {
            come[i] = (i > 0 ? come[i - 1] : 0) + DICE.nextInt(3) * DICE.nextInt(8);
            served[i] = 1 + DICE.nextInt(15);
        }
        WaitingNets x = new WaitingNets();
        x.counter(0, 0);
        x.hands(0, hands);
        Due.lay(x, 0, come);
        Due.lay(x, 1, served);
        int[] begun = new int[many];
        long sum = 0;
        for (int i = 0; i < many; i++) {
            DUE.is("waited", x.waited(0, 0, 1, i), 1);
            begun[i] = come[i] + x.asked();
            sum += x.asked();
            DUE.is("none is served ahead of one that came before", i > 0 && begun[i] < begun[i - 1] ? 1 : 0, 0);
            for (int minute = come[i]; minute < begun[i]; minute++) {
                DUE.is("hands busy while it waits", busyAt(minute, i, begun, served), hands);
            }
            DUE.is("a hand is free for it", busyAt(begun[i], i, begun, served) < hands ? 1 : 0, 1);
        }
        DUE.is("seen", x.seen(0, 0, 1), many);
        same("SEEN of all, WAITED of each", told(x).times(number(many)), number(sum));
    }

    private static int busyAt(int minute, int before, int[] begun, int[] served) {
        int busy = 0;
        for (int i = 0; i < before; i++) {
            if (begun[i] <= minute && minute < begun[i] + served[i]) {
                busy++;
            }
        }
        return busy;
    }
}
