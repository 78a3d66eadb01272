/** Holds answers against what is due, for the tests of the project. */
final class Due {
    private final String test;
    private int held = 0;
    private int wrong = 0;

    Due(String test) {
        this.test = test;
    }

    void is(String call, long got, long want) {
        held++;
        if (got != want) {
            wrong++;
            System.out.println(test + ": " + call + " answered " + got + ", due is " + want);
        }
    }

    /** An answer that tells a fraction. */
    void tells(String call, WaitingNets x, long got, long want, long upper, long lower) {
        is(call, got, want);
        is(call + " upper()", x.upper(), upper);
        is(call + " lower()", x.lower(), lower);
    }

    /** An answer that tells a number by asked(). */
    void asks(String call, WaitingNets x, long got, long want, long asked) {
        is(call, got, want);
        is(call + " asked()", x.asked(), asked);
    }

    /** An answer FINDING, with the one that was found. */
    void finds(String call, WaitingNets x, long got, int finding) {
        is(call, got, WaitingNets.FINDING);
        is(call + " finding()", x.finding(), finding);
    }

    static final int NOTHING = 1, BEYOND = 2, UNLIKE = 3, NOUGHT = 4, SIZE = 5;

    /** Lays a whole ROW. */
    static void lay(WaitingNets x, int r, int... numbers) {
        x.row(r, numbers.length);
        for (int i = 0; i < numbers.length; i++) {
            x.lay(r, i, numbers[i]);
        }
    }

    void end() {
        System.out.println(test + ": " + held + " answers held, " + wrong + " wrong");
        if (wrong != 0) {
            System.exit(1);
        }
    }
}
