/** Promises 7 to 16 at their bounds: each method holds one sentence of the document. */
public final class BoundsOfCountersTest {
    private static final Due DUE = new Due("BoundsOfCountersTest");
    private static final int MIN = Bounds.MIN, MAX = Bounds.MAX;
    private static final int[] RATES = {1, 2, 3, 4, 6, 12};

    /** COUNTER 1 is missing; 0 is of KIND 0, 2 is ROOMED, 3 is LAST, with what can be told of them. */
    private static final Bounds.Scene SOME_COUNTERS = x -> {
        x.counter(0, 0);
        x.rate(0, 6);
        x.hands(0, 2);
        x.comes(0, 5);
        x.counter(2, 5);
        x.rate(2, 3);
        x.room(2, 4);
        x.comes(2, 9);
        x.counter(3, 2);
        x.way(0, 2, 1);
        x.way(0, 0, 2);
        x.way(2, 0, 3);
        x.way(2, 3, 1);
        x.way(3, 3, 2);
    };
    private static final Bounds SOME = new Bounds(DUE, SOME_COUNTERS);
    private static final Bounds EMPTY = new Bounds(DUE, Bounds.NOTHING_LAID);

    public static void main(String[] args) {
        counterNumbers();
        counterKinds();
        counterAtFirst();
        counterAnew();
        anewAmongAll();
        dropped();
        droppedAmongAll();
        rates();
        ratesOfEachKind();
        handsOneOrTwo();
        handsAlwaysOne();
        roomOneToSix();
        roomOfOthers();
        quarters();
        sumOfFour();
        waysOfEachAlone();
        wayOrder();
        comesNoneToNine();
        toldWhat();
        toldLeaving();
        markKinds();
        markBadAheadOfAll();
        markOfSharedOnes();
        markOfLast();
        markOfRankedAndRoomed();
        product();
        DUE.end();
    }

    private static Bounds one(int kind) {
        return new Bounds(DUE, x -> x.counter(1, kind));
    }

    private static void told(WaitingNets x, int c, int... due) {
        for (int what = 0; what < due.length; what++) {
            DUE.asks("told(" + c + ", " + what + ")", x, x.told(c, what), 1, due[what]);
        }
    }

    // ---- "COUNTERS 0 .. 3", in each call that takes one

    private static void counterNumbers() {
        for (Bounds b : new Bounds[] {EMPTY, SOME}) {
            b.badOutside("counter", 0, 3, (x, c) -> x.counter(c, 0));
            b.badOutside("drop", 0, 3, (x, c) -> x.drop(c));
            b.badOutside("rate", 0, 3, (x, c) -> x.rate(c, 2));
            b.badOutside("hands", 0, 3, (x, c) -> x.hands(c, 1));
            b.badOutside("room", 0, 3, (x, c) -> x.room(c, 2));
            b.badOutside("way from", 0, 3, (x, c) -> x.way(c, 0, 1));
            b.badOutside("way to", 0, 3, (x, c) -> x.way(0, c, 1));
            b.badOutside("comes", 0, 3, (x, c) -> x.comes(c, 1));
            b.badOutside("told", 0, 3, (x, c) -> x.told(c, 0));
            b.badOutside("mark", 0, 3, (x, c) -> x.mark(c, 1));
        }
        for (int c : new int[] {0, 3}) {
            Bounds b = new Bounds(DUE, x -> x.counter(c, 0));
            b.answers("counter " + c, 1, x -> x.counter(c, 5));
            b.answers("drop " + c, 1, x -> x.drop(c));
            b.answers("rate " + c, 1, x -> x.rate(c, 2));
            b.answers("hands " + c, 1, x -> x.hands(c, 2));
            b.answers("way " + c, 0, x -> x.way(c, c, 4));
            b.answers("comes " + c, 0, x -> x.comes(c, 9));
            b.asks("told " + c, 1, 4, x -> x.told(c, 4));
            Bounds roomed = new Bounds(DUE, x -> x.counter(c, 5));
            roomed.answers("room " + c, 1, x -> x.room(c, 6));
            roomed.answers("mark " + c, 1, x -> x.mark(c, 5));
        }
    }

    // ---- 7: "A COUNTER of a KIND comes (anew): 1 if one was there, else 0. BAD."

    private static void counterKinds() {
        for (int c : new int[] {0, 1}) {
            SOME.badOutside("KIND for " + c, 0, 5, (x, kind) -> x.counter(c, kind));
        }
        for (int kind = 0; kind <= 5; kind++) {
            int k = kind;
            EMPTY.answers("KIND " + kind, 0, x -> x.counter(2, k));
            SOME.answers("KIND " + kind + " anew", 1, x -> x.counter(2, k));
            SOME.answers("KIND " + kind + " of the missing one", 0, x -> x.counter(1, k));
        }
    }

    /** "RATE .. (1 at first), and HANDS, 1 or 2 (1 at first ..)", WAYS and COMES "0 at first". */
    private static void counterAtFirst() {
        for (int kind = 0; kind <= 5; kind++) {
            WaitingNets x = new WaitingNets();
            x.counter(3, kind);
            told(x, 3, kind, 1, 1, 0, 4);
            DUE.is("no WAYS", x.count(3), 0);
            DUE.is("a hand, but for ENDLESS", x.count(2), kind == 3 ? 0 : 1);
        }
    }

    /** "A COUNTER that comes anew has no WAYS (neither way), nothing COMES to it." */
    private static void counterAnew() {
        for (int kind = 0; kind <= 5; kind++) {
            WaitingNets x = SOME.laid();
            DUE.is("anew", x.counter(0, kind), 1);
            told(x, 0, kind, 1, 1, 0, 4);
            DUE.is("WAYS of the others", x.count(3), 2);
            told(x, 2, 5, 3, 1, 9, 3);
            told(x, 3, 2, 1, 1, 0, 2);
            DUE.is("room of the other", x.mark(2, 5), 4);
        }
        WaitingNets x = SOME.laid();
        x.counter(2, 5);
        DUE.is("room anew", x.mark(2, 5), 1);
        x.counter(2, 0);
        x.counter(2, 5);
        DUE.is("room behind another KIND", x.mark(2, 5), 1);
        x = SOME.laid();
        x.counter(0, 0);
        told(x, 0, 0, 1, 1, 0, 4);
    }

    /** A quarter from each to each, nine come to each. */
    private static final Bounds ALL = new Bounds(DUE, x -> {
        for (int c = 0; c <= 3; c++) {
            x.counter(c, 0);
            x.comes(c, 9);
        }
        for (int from = 0; from <= 3; from++) {
            for (int to = 0; to <= 3; to++) {
                x.way(from, to, 1);
            }
        }
    });

    private static void anewAmongAll() {
        for (int c = 0; c <= 3; c++) {
            WaitingNets x = ALL.laid();
            DUE.is("anew " + c, x.counter(c, 0), 1);
            DUE.is("WAYS of the other three", x.count(3), 9);
            for (int o = 0; o <= 3; o++) {
                told(x, o, 0, 1, 1, o == c ? 0 : 9, o == c ? 4 : 1);
            }
        }
    }

    // ---- 8: "A COUNTER is missing (WAYS to and from it, COMES are gone): 1. BAD; NOTHING."

    private static void dropped() {
        EMPTY.finds("drop none", Due.NOTHING, x -> x.drop(0));
        SOME.finds("drop the missing one", Due.NOTHING, x -> x.drop(1));
        SOME.answers("drop", 1, x -> x.drop(0));
        Bounds gone = new Bounds(DUE, x -> {
            SOME_COUNTERS.on(x);
            x.drop(0);
        });
        gone.finds("drop again", Due.NOTHING, x -> x.drop(0));
        gone.finds("told of it", Due.NOTHING, x -> x.told(0, 0));
        gone.finds("a WAY to it", Due.NOTHING, x -> x.way(2, 0, 1));
        gone.finds("a WAY from it", Due.NOTHING, x -> x.way(0, 2, 1));
        gone.answers("it comes", 0, x -> x.counter(0, 0));
        WaitingNets x = gone.laid();
        DUE.is("COUNTERS", x.count(1), 2);
        DUE.is("WAYS", x.count(3), 2);
        told(x, 2, 5, 3, 1, 9, 3);
        x.counter(0, 0);
        told(x, 0, 0, 1, 1, 0, 4);
        DUE.is("no WAY came back", x.count(3), 2);
        told(x, 2, 5, 3, 1, 9, 3);
    }

    private static void droppedAmongAll() {
        for (int c = 0; c <= 3; c++) {
            WaitingNets x = ALL.laid();
            DUE.is("drop " + c, x.drop(c), 1);
            DUE.is("WAYS of the other three", x.count(3), 9);
            DUE.is("it comes", x.counter(c, 0), 0);
            DUE.is("without WAYS", x.count(3), 9);
            for (int o = 0; o <= 3; o++) {
                told(x, o, 0, 1, 1, o == c ? 0 : 9, o == c ? 4 : 1);
            }
        }
    }

    // ---- 9: "RATE: what it was. BAD; NOTHING.", of "1, 2, 3, 4, 6 or 12"

    private static boolean isRate(int v) {
        for (int rate : RATES) {
            if (rate == v) {
                return true;
            }
        }
        return false;
    }

    private static void rates() {
        for (int v = -13; v <= 25; v++) {
            int rate = v;
            if (isRate(v)) {
                SOME.answers("rate " + v, 6, x -> x.rate(0, rate));
                SOME.finds("rate of none " + v, Due.NOTHING, x -> x.rate(1, rate));
            } else {
                SOME.bad("rate " + v, x -> x.rate(0, rate));
                SOME.bad("BAD ahead of NOTHING " + v, x -> x.rate(1, rate));
            }
        }
        for (int v : new int[] {MIN, MAX, 1 << 16, MIN + 1, MIN + 12}) {
            SOME.bad("rate " + v, x -> x.rate(0, v));
            SOME.bad("BAD ahead of NOTHING " + v, x -> x.rate(1, v));
        }
    }

    private static void ratesOfEachKind() {
        for (int kind = 0; kind <= 5; kind++) {
            WaitingNets x = new WaitingNets();
            x.counter(1, kind);
            int before = 1;
            for (int v : RATES) {
                DUE.is("rate " + v + " of KIND " + kind, x.rate(1, v), before);
                told(x, 1, kind, v, 1, 0, 4);
                before = v;
            }
        }
    }

    // ---- 10: "HANDS of a COUNTER of KIND 0: what they were. BAD; NOTHING; UNLIKE."

    private static void handsOneOrTwo() {
        one(0).badOutside("hands", 1, 2, (x, v) -> x.hands(1, v));
        one(0).answers("1 hand", 1, x -> x.hands(1, 1));
        one(0).answers("2 hands", 1, x -> x.hands(1, 2));
        SOME.answers("1 hand of two", 2, x -> x.hands(0, 1));
        SOME.answers("2 hands of two", 2, x -> x.hands(0, 2));
        for (int v = 1; v <= 2; v++) {
            int hands = v;
            EMPTY.finds(v + " hands of none", Due.NOTHING, x -> x.hands(1, hands));
        }
        EMPTY.badOutside("BAD ahead of NOTHING", 1, 2, (x, v) -> x.hands(1, v));
    }

    /** "LAST, RANKED, ROOMED: always 1; SHARED, ENDLESS: not looked at, told as 1". */
    private static void handsAlwaysOne() {
        for (int kind = 1; kind <= 5; kind++) {
            for (int v = 1; v <= 2; v++) {
                int hands = v;
                one(kind).finds(v + " hands of KIND " + kind, Due.UNLIKE, x -> x.hands(1, hands));
            }
            one(kind).badOutside("BAD ahead of UNLIKE, KIND " + kind, 1, 2, (x, v) -> x.hands(1, v));
            one(kind).asks("told as 1, KIND " + kind, 1, 1, x -> x.told(1, 2));
        }
    }

    // ---- 11: "Room of a ROOMED one (1 .. 6; 1 at first): what it was. BAD; NOTHING; UNLIKE."

    private static void roomOneToSix() {
        one(5).badOutside("room", 1, 6, (x, v) -> x.room(1, v));
        EMPTY.badOutside("BAD ahead of NOTHING", 1, 6, (x, v) -> x.room(1, v));
        WaitingNets x = new WaitingNets();
        x.counter(1, 5);
        DUE.is("room at first", x.mark(1, 5), 1);
        int before = 1;
        for (int v : new int[] {1, 2, 3, 4, 5, 6, 1}) {
            DUE.is("room " + v, x.room(1, v), before);
            DUE.is("room is " + v, x.mark(1, 5), v);
            before = v;
        }
        for (int v : new int[] {1, 6}) {
            EMPTY.finds("room " + v + " of none", Due.NOTHING, y -> y.room(1, v));
        }
    }

    private static void roomOfOthers() {
        for (int kind = 0; kind <= 4; kind++) {
            for (int v : new int[] {1, 6}) {
                one(kind).finds("room of KIND " + kind, Due.UNLIKE, x -> x.room(1, v));
            }
            one(kind).badOutside("BAD ahead of UNLIKE, KIND " + kind, 1, 6, (x, v) -> x.room(1, v));
        }
    }

    // ---- 12: "A WAY: what it was. BAD; NOTHING: either; STATE: the sum would be above 4."

    private static void quarters() {
        SOME.badOutside("quarters", 0, 4, (x, q) -> x.way(3, 0, q));
        EMPTY.badOutside("BAD ahead of NOTHING", 0, 4, (x, q) -> x.way(3, 0, q));
        SOME.badOutside("BAD ahead of NOTHING: to", 0, 4, (x, q) -> x.way(0, 1, q));
        for (int q = 0; q <= 4; q++) {
            int many = q;
            new Bounds(DUE, x -> {
                x.counter(0, 0);
                x.counter(1, 0);
            }).answers(q + " quarters", 0, x -> x.way(0, 1, many));
            one(3).answers(q + " quarters to itself", 0, x -> x.way(1, 1, many));
            SOME.finds(q + " quarters to none", Due.NOTHING, x -> x.way(3, 1, many));
            SOME.finds(q + " quarters from none", Due.NOTHING, x -> x.way(1, 3, many));
            SOME.finds(q + " quarters from none to itself", Due.NOTHING, x -> x.way(1, 1, many));
        }
    }

    /** "the sum of all WAYS out of one is 4 at most": a WAY that is told again counts as it is told now. */
    private static void sumOfFour() {
        Bounds b = new Bounds(DUE, x -> {
            for (int c = 0; c <= 3; c++) {
                x.counter(c, c);
            }
            x.way(0, 1, 1);
            x.way(0, 2, 2);
        });
        b.answers("3 and 1 are 4", 0, x -> x.way(0, 3, 1));
        b.answers("3 and 1 to itself are 4", 0, x -> x.way(0, 0, 1));
        b.state("3 and 2 are 5", x -> x.way(0, 3, 2));
        b.state("3 and 4 are 7", x -> x.way(0, 3, 4));
        b.state("3 and 2 to itself are 5", x -> x.way(0, 0, 2));
        b.answers("2 in place of 1 are 4", 1, x -> x.way(0, 1, 2));
        b.state("3 in place of 1 are 5", x -> x.way(0, 1, 3));
        b.answers("3 in place of 2 are 4", 2, x -> x.way(0, 2, 3));
        b.state("4 in place of 2 are 5", x -> x.way(0, 2, 4));
        b.answers("0 in place of 2", 2, x -> x.way(0, 2, 0));
        b.badOutside("BAD ahead of STATE", 0, 4, (x, q) -> x.way(0, 3, q));
        WaitingNets x = b.laid();
        x.way(0, 3, 1);
        for (int to = 0; to <= 3; to++) {
            DUE.is("one quarter more", x.way(0, to, to == 0 ? 1 : to == 2 ? 3 : 2), WaitingNets.STATE);
        }
        DUE.is("as it was, 4 being full", x.way(0, 2, 2), 2);
        DUE.is("0 where there is none", x.way(0, 0, 0), 0);
        told(x, 0, 0, 1, 1, 0, 0);
    }

    private static void waysOfEachAlone() {
        WaitingNets x = new WaitingNets();
        for (int c = 0; c <= 3; c++) {
            x.counter(c, 5 - c);
        }
        for (int from = 0; from <= 3; from++) {
            for (int to = 0; to <= 3; to++) {
                DUE.is("a quarter from each to each", x.way(from, to, 1), 0);
            }
        }
        DUE.is("sixteen WAYS", x.count(3), 16);
        for (int from = 0; from <= 3; from++) {
            DUE.is("each is full", x.way(from, 3 - from, 2), WaitingNets.STATE);
        }
    }

    /** The list's order, as for the calls with the same list. */
    private static void wayOrder() {
        Bounds b = new Bounds(DUE, x -> {
            x.counter(0, 0);
            x.way(0, 0, 4);
        });
        for (int q = 0; q <= 4; q++) {
            int many = q;
            b.finds("NOTHING ahead of STATE " + q, Due.NOTHING, x -> x.way(0, 3, many));
        }
        for (int q : new int[] {-1, 1, 5}) {
            b.badOutside("BAD ahead of all, from", 0, 3, (x, c) -> x.way(c, 0, q));
            b.badOutside("BAD ahead of all, to", 0, 3, (x, c) -> x.way(0, c, q));
        }
    }

    // ---- 13: "COMES: what it was. BAD; NOTHING.", "0 .. 9; 0 at first"

    private static void comesNoneToNine() {
        SOME.badOutside("comes", 0, 9, (x, many) -> x.comes(0, many));
        SOME.badOutside("BAD ahead of NOTHING", 0, 9, (x, many) -> x.comes(1, many));
        for (int many = 0; many <= 9; many++) {
            int m = many;
            SOME.answers("comes " + many, 5, x -> x.comes(0, m));
            SOME.finds("comes to none " + many, Due.NOTHING, x -> x.comes(1, m));
        }
        for (int kind = 0; kind <= 5; kind++) {
            one(kind).answers("comes to KIND " + kind, 0, x -> x.comes(1, 9));
        }
    }

    // ---- 14: "0 its KIND, 1 RATE, 2 HANDS, 3 COMES, 4 quarters that leave the net, told by asked(): 1. BAD;
    // NOTHING."

    private static void toldWhat() {
        SOME.badOutside("told", 0, 4, (x, what) -> x.told(0, what));
        SOME.badOutside("BAD ahead of NOTHING", 0, 4, (x, what) -> x.told(1, what));
        int[] due = {0, 6, 2, 5, 1};
        for (int what = 0; what <= 4; what++) {
            int w = what;
            SOME.asks("told " + what, 1, due[what], x -> x.told(0, w));
            SOME.finds("told of none " + what, Due.NOTHING, x -> x.told(1, w));
        }
    }

    private static void toldLeaving() {
        for (int q = 0; q <= 4; q++) {
            int many = q;
            Bounds b = new Bounds(DUE, x -> {
                x.counter(1, 0);
                x.way(1, 1, many);
            });
            b.asks(q + " stay", 1, 4 - q, x -> x.told(1, 4));
        }
    }

    // ---- 15: "What a COUNTER that IS of a KIND tells: .. BAD: also KIND 0; NOTHING; UNLIKE."

    private static void markKinds() {
        boolean[][] is = new boolean[6][6];
        is[1][1] = is[2][1] = is[2][2] = is[3][1] = is[3][3] = is[4][4] = is[5][5] = true;
        for (int kind = 0; kind <= 5; kind++) {
            for (int asked = 1; asked <= 5; asked++) {
                int a = asked;
                if (!is[kind][asked]) {
                    one(kind).finds("mark " + asked + " of KIND " + kind, Due.UNLIKE, x -> x.mark(1, a));
                }
                one(kind).finds("mark " + asked + " of none", Due.NOTHING, x -> x.mark(2, a));
            }
        }
    }

    private static void markBadAheadOfAll() {
        for (int kind = 0; kind <= 5; kind++) {
            one(kind).badOutside("mark of KIND " + kind, 1, 5, (x, asked) -> x.mark(1, asked));
            one(kind).badOutside("mark of none", 1, 5, (x, asked) -> x.mark(2, asked));
        }
    }

    private static void markOfSharedOnes() {
        for (int v : RATES) {
            for (int kind = 1; kind <= 3; kind++) {
                int k = kind;
                Bounds b = new Bounds(DUE, x -> {
                    x.counter(1, k);
                    x.rate(1, v);
                });
                b.answers("RATE " + v + " of KIND " + kind, v, x -> x.mark(1, 1));
                if (kind == 3) {
                    b.answers("12 by " + v, 12 / v, x -> x.mark(1, 3));
                }
            }
        }
    }

    /** "from how many COUNTERS WAYS lead to it": none to all four, itself among them. */
    private static void markOfLast() {
        for (int many = 0; many <= 4; many++) {
            int m = many;
            Bounds b = new Bounds(DUE, x -> {
                for (int c = 0; c <= 3; c++) {
                    x.counter(c, c == 1 ? 2 : 0);
                }
                for (int from = 0; from < m; from++) {
                    x.way(from, 1, 1 + from);
                }
                x.way(1, 2, 2);
            });
            b.answers(many + " lead there", many, x -> x.mark(1, 2));
        }
    }

    private static void markOfRankedAndRoomed() {
        for (int v : RATES) {
            Bounds b = new Bounds(DUE, x -> {
                x.counter(1, 4);
                x.rate(1, v);
            });
            b.answers("RATE less 1 of " + v, v - 1, x -> x.mark(1, 4));
        }
        for (int v = 1; v <= 6; v++) {
            int room = v;
            Bounds b = new Bounds(DUE, x -> {
                x.counter(1, 5);
                x.rate(1, 12);
                x.room(1, room);
            });
            b.answers("room " + v, v, x -> x.mark(1, 5));
        }
    }

    // ---- 16: "Whether the net is PRODUCT: 1, 0. (Without COUNTERS: 1.)"

    private static void product() {
        EMPTY.answers("without COUNTERS", 1, x -> x.product());
        for (int kind = 0; kind <= 5; kind++) {
            one(kind).answers("KIND " + kind, kind <= 3 ? 1 : 0, x -> x.product());
            for (int c = 0; c <= 3; c++) {
                int at = c;
                int k = kind;
                Bounds b = new Bounds(DUE, x -> {
                    for (int o = 0; o <= 3; o++) {
                        x.counter(o, o == at ? k : o);
                    }
                });
                b.answers("KIND " + kind + " at " + c, kind <= 3 ? 1 : 0, x -> x.product());
            }
        }
        SOME.answers("with a ROOMED one", 0, x -> x.product());
        WaitingNets x = SOME.laid();
        x.drop(2);
        DUE.is("once it is missing", x.product(), 1);
    }
}
