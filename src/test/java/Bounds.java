import java.util.ArrayList;
import java.util.List;

/**
 * Calls at the bounds of what the document tells. Each is made on an object of its own, on which something
 * was asked, told and found before; a second object, on which it was not made, shows what has to be as it was.
 */
final class Bounds {
    /** What is laid ahead of the call. ROWS are laid by Bounds.row(), so that asked() stays known. */
    interface Scene {
        void on(WaitingNets x);
    }

    interface Call {
        long on(WaitingNets x);
    }

    /** A call with one number left open. */
    interface Numbered {
        long on(WaitingNets x, int number);
    }

    static final int ASKED = 77, UPPER = 5, LOWER = 9;
    static final int MIN = Integer.MIN_VALUE, MAX = Integer.MAX_VALUE;
    static final Scene NOTHING_LAID = x -> { };

    private static final int FINDING_PLACE = 8;

    private final Due due;
    private final Scene scene;

    Bounds(Due due, Scene scene) {
        this.due = due;
        this.scene = scene;
    }

    // ---- what is refused

    void bad(String text, Call call) {
        refused(text, call, WaitingNets.BAD, 0);
    }

    void state(String text, Call call) {
        refused(text, call, WaitingNets.STATE, 0);
    }

    void finds(String text, int finding, Call call) {
        refused(text, call, WaitingNets.FINDING, finding);
    }

    /** BAD for the numbers just outside of least .. most, the smallest and the largest int. */
    void badOutside(String text, int least, int most, Numbered call) {
        for (int number : outside(least, most)) {
            bad(text + " with " + number, x -> call.on(x, number));
        }
    }

    void findsOutside(String text, int finding, int least, int most, Numbered call) {
        for (int number : outside(least, most)) {
            finds(text + " with " + number, finding, x -> call.on(x, number));
        }
    }

    static int[] outside(int least, int most) {
        return new int[] {least - 1, most + 1, MIN, MAX};
    }

    // ---- what is not refused

    /** Answered, and neither asked() nor upper(), lower() tells anything new. */
    void answers(String text, long want, Call call) {
        WaitingNets x = held(text, want, call);
        due.is(text + ": asked() after it", x.asked(), ASKED);
        due.is(text + ": upper() after it", x.upper(), UPPER);
        due.is(text + ": lower() after it", x.lower(), LOWER);
    }

    /** Answered, with a fraction told and nothing else. */
    void tells(String text, long want, long upper, long lower, Call call) {
        WaitingNets x = held(text, want, call);
        due.is(text + ": upper()", x.upper(), upper);
        due.is(text + ": lower()", x.lower(), lower);
        due.is(text + ": asked() after it", x.asked(), ASKED);
        due.is(text + ": digest() after it", x.digest(), laid().digest());
    }

    /** Answered, with a number told by asked() and no fraction. */
    void asks(String text, long want, long asked, Call call) {
        WaitingNets x = held(text, want, call);
        due.is(text + ": asked()", x.asked(), asked);
        due.is(text + ": upper() after it", x.upper(), UPPER);
        due.is(text + ": lower() after it", x.lower(), LOWER);
    }

    /** What is not refused leaves finding(), findings() as they were. */
    private WaitingNets held(String text, long want, Call call) {
        WaitingNets x = laid();
        due.is(text, call.on(x), want);
        due.is(text + ": finding() after it", x.finding(), Due.NOUGHT);
        for (int f = 1; f <= 5; f++) {
            due.is(text + ": findings(" + f + ") after it", x.findings(f), f == Due.NOUGHT ? 1 : 0);
        }
        return x;
    }

    /** An object with the scene, for calls one behind the other. */
    WaitingNets laid() {
        WaitingNets x = new WaitingNets();
        talk(x);
        scene.on(x);
        due.is("the scene's asked()", x.asked(), ASKED);
        due.is("the scene's upper()", x.upper(), UPPER);
        due.is("the scene's lower()", x.lower(), LOWER);
        due.is("the scene's finding()", x.finding(), Due.NOUGHT);
        return x;
    }

    /** asked() is 77, the fraction 5 by 9, the finding NOUGHT; no ROW, no COUNTER is left. */
    private static void talk(WaitingNets x) {
        row(x, 0, 1);
        x.counter(0, 4);
        x.rate(0, 12);
        x.ranked(0, 3, 8, false, 0);
        x.row(0, 0);
        x.average(0);
        x.tear(0);
        x.drop(0);
    }

    /** Lays a whole ROW; asked() is 77 behind it, unless the ROW is empty. */
    static void row(WaitingNets x, int r, int... numbers) {
        Due.lay(x, r, numbers);
        int last = numbers.length - 1;
        if (last >= 0) {
            x.lay(r, last, ASKED);
            x.lay(r, last, numbers[last]);
        }
    }

    /** n times the same number. */
    static int[] alike(int n, int number) {
        int[] numbers = new int[n];
        java.util.Arrays.fill(numbers, number);
        return numbers;
    }

    private void refused(String text, Call call, long want, int finding) {
        WaitingNets x = laid();
        WaitingNets other = laid();
        due.is(text, call.on(x), want);
        List<Long> after = facts(x);
        List<Long> before = facts(other);
        if (finding != 0) {
            before.set(FINDING_PLACE, (long) finding);
            before.set(FINDING_PLACE + finding, before.get(FINDING_PLACE + finding) + 1);
        }
        same(text + ": fact", after, before);
        same(text + ": later answer", answersAfter(x), answersAfter(other));
    }

    private void same(String text, List<Long> got, List<Long> want) {
        for (int k = 0; k < want.size(); k++) {
            due.is(text + " " + k + " after it", got.get(k), want.get(k));
        }
    }

    /** What is seen without a change. */
    private static List<Long> facts(WaitingNets x) {
        List<Long> facts = new ArrayList<>(List.of(x.digest(), (long) x.asked(), x.upper(), x.lower()));
        for (int what = 0; what <= 3; what++) {
            facts.add((long) x.count(what));
        }
        facts.add((long) x.finding());
        for (int f = 1; f <= 5; f++) {
            facts.add((long) x.findings(f));
        }
        return facts;
    }

    /** Some hundred answers to calls that look at all that there is. */
    private static List<Long> answersAfter(WaitingNets x) {
        List<Long> all = new ArrayList<>();
        for (int c = 0; c <= 3; c++) {
            add(all, x, x.told(c, 2), x.mark(c, 5), x.flow(c));
            add(all, x, x.use(c), x.mean(c, true), x.visits(c));
            add(all, x, x.through(c, 3), x.meanOf(c, 2), x.round(c, 4));
            add(all, x, x.bound(c, 2), x.ranked(c, 1, 1, true, 1), x.roomed(c, 2, 1));
        }
        add(all, x, x.product(), x.kept(), x.closed());
        add(all, x, x.narrow(), x.best(2), x.balance(2));
        for (int r = 0; r <= 5; r++) {
            add(all, x, x.average(r), x.chance(r), x.parts(r));
            add(all, x, x.lasting(r, 0), x.seen(0, r, 1), x.judge(r, 1));
            add(all, x, x.lay(r, 0, 5), x.lay(r, 39, 6), x.tear(r));
        }
        return all;
    }

    private static void add(List<Long> all, WaitingNets x, long... answers) {
        for (long answer : answers) {
            all.add(answer);
        }
        all.addAll(List.of((long) x.asked(), x.upper(), x.lower(), x.digest()));
    }
}
