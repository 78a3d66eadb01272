/** Promises 31 to 35 at their bounds: each method holds one sentence of the document. */
public final class BoundsOfRanksAndChainsTest {
    private static final Due DUE = new Due("BoundsOfRanksAndChainsTest");
    private static final int MIN = Bounds.MIN, MAX = Bounds.MAX, NONE = WaitingNets.NONE;
    private static final int[] RATES = {1, 2, 3, 4, 6, 12};

    private static final Bounds EMPTY = new Bounds(DUE, Bounds.NOTHING_LAID);

    public static void main(String[] args) {
        rankedNumbers();
        rankedWhich();
        rankedLessThanRate();
        rankedOrder();
        rankedOfEachKind();
        roomedComes();
        roomedThings();
        roomedAboveItsRoom();
        roomedBelow();
        roomedOrder();
        chainRowNumbers();
        chainSizes();
        chainRates();
        chainOwnPlaces();
        lastingStates();
        lastingSets();
        lastingOfOthers();
        lastingOrder();
        partsLeastAndMost();
        partsOrder();
        judgeRowNumbers();
        judgeNumbers();
        judgeSizes();
        judgeAllZero();
        judgeFirstState();
        judgeOrder();
        DUE.end();
    }

    private static Bounds counter(int c, int kind, int rate) {
        return new Bounds(DUE, x -> {
            x.counter(c, kind);
            x.rate(c, rate);
        });
    }

    private static Bounds room(int rate, int room) {
        return new Bounds(DUE, x -> {
            x.counter(1, 5);
            x.rate(1, rate);
            x.room(1, room);
        });
    }

    private static Bounds rows(int[] first, int... second) {
        return new Bounds(DUE, x -> {
            Bounds.row(x, 0, first);
            Bounds.row(x, 1, second);
        });
    }

    /** A CHAIN that goes from each state to the next and from the last to the first. */
    private static int[] cycle(int n, int rate) {
        int[] rates = new int[n * n];
        for (int i = 0; i < n; i++) {
            rates[i * n + (i + 1) % n] = rate;
        }
        return rates;
    }

    private static int[] with(int[] numbers, int place, int number) {
        int[] changed = numbers.clone();
        changed[place] = number;
        return changed;
    }

    private static int side(int size) {
        for (int n = 2; n <= 6; n++) {
            if (n * n == size) {
                return n;
            }
        }
        return 0;
    }

    // ---- 31: "NUMBERS of a class (0 first, 1 second) at a RANKED one, told by upper(), lower(): 1. BAD: a, b,
    // too; NOTHING; UNLIKE; STATE: a + b is no less than its RATE. (STATE behind UNLIKE.)"

    private static void rankedNumbers() {
        for (Bounds b : new Bounds[] {EMPTY, counter(1, 0, 12), counter(1, 4, 12), counter(1, 4, 1)}) {
            b.badOutside("ranked c", 0, 3, (x, c) -> x.ranked(c, 0, 0, true, 0));
            for (int other : new int[] {0, 9}) {
                b.badOutside("ranked a", 0, 9, (x, a) -> x.ranked(1, a, other, true, 0));
                b.badOutside("ranked b", 0, 9, (x, v) -> x.ranked(1, other, v, false, 1));
            }
            b.bad("a and b wrap around", x -> x.ranked(1, MAX, MIN, true, 0));
            b.bad("a and b are 0 together", x -> x.ranked(1, -5, 5, false, 0));
        }
        for (int c : new int[] {0, 3}) {
            counter(c, 4, 12).tells("a 0, b 9", 1, 3, 1, x -> x.ranked(c, 0, 9, true, 1));
            counter(c, 4, 12).tells("a 9, b 0", 1, 3, 1, x -> x.ranked(c, 9, 0, true, 0));
            counter(c, 4, 12).tells("a 9, b 2", 1, 3, 1, x -> x.ranked(c, 9, 2, true, 0));
            counter(c, 4, 12).tells("a 2, b 9", 1, 1, 5, x -> x.ranked(c, 2, 9, true, 0));
        }
    }

    private static void rankedWhich() {
        for (Bounds b : new Bounds[] {EMPTY, counter(1, 5, 12), counter(1, 4, 12), counter(1, 4, 1)}) {
            b.badOutside("which", 0, 1, (x, which) -> x.ranked(1, 1, 1, true, which));
            b.badOutside("which, not breaking in", 0, 1, (x, which) -> x.ranked(1, 1, 1, false, which));
        }
        counter(1, 4, 4).tells("first", 1, 1, 3, x -> x.ranked(1, 1, 1, true, 0));
        counter(1, 4, 4).tells("second", 1, 2, 3, x -> x.ranked(1, 1, 1, true, 1));
        counter(1, 4, 4).tells("first, not breaking in", 1, 5, 12, x -> x.ranked(1, 1, 1, false, 0));
        counter(1, 4, 4).tells("second, not breaking in", 1, 7, 12, x -> x.ranked(1, 1, 1, false, 1));
    }

    /** "a + b less than its RATE": all of them, with the NUMBERS by the document's own words. */
    private static void rankedLessThanRate() {
        for (int rate : RATES) {
            for (int a = 0; a <= 9; a++) {
                for (int b = 0; b <= 9; b++) {
                    for (int which = 0; which <= 1; which++) {
                        rankedOne(rate, a, b, which);
                    }
                }
            }
        }
    }

    private static void rankedOne(int r, int a, int b, int which) {
        for (boolean breaking : new boolean[] {true, false}) {
            String text = "ranked " + a + " and " + b + " of " + r;
            Bounds at = counter(2, 4, r);
            if (a + b >= r) {
                DUE.is(text, at.laid().ranked(2, a, b, breaking, which), WaitingNets.STATE);
                if (a + b == r) {
                    at.state(text, x -> x.ranked(2, a, b, breaking, which));
                }
            } else {
                PlainModel.Ratio due = numbers(r, a, b, breaking, which);
                at.tells(text, 1, due.up.longValueExact(), due.low.longValueExact(),
                    x -> x.ranked(2, a, b, breaking, which));
            }
        }
    }

    private static PlainModel.Ratio numbers(int r, int a, int b, boolean breaking, int which) {
        PlainModel.Ratio first = PlainModel.Ratio.of(a, r - a);
        if (breaking) {
            return which == 0 ? first : PlainModel.Ratio.of(a + b, r - a - b).minus(first);
        }
        PlainModel.Ratio time = which == 0
            ? PlainModel.Ratio.of(a + b, r * (r - a)) : PlainModel.Ratio.of(a + b, (r - a) * (r - a - b));
        return PlainModel.Ratio.of(which == 0 ? a : b).times(time.plus(PlainModel.Ratio.of(1, r)));
    }

    private static void rankedOrder() {
        EMPTY.finds("NOTHING", Due.NOTHING, x -> x.ranked(3, 0, 0, true, 0));
        EMPTY.finds("NOTHING, a + b being 18", Due.NOTHING, x -> x.ranked(3, 9, 9, true, 0));
        counter(1, 4, 1).finds("NOTHING, another being there", Due.NOTHING, x -> x.ranked(3, 9, 9, false, 1));
        counter(1, 4, 1).state("STATE", x -> x.ranked(1, 9, 9, false, 1));
        counter(1, 4, 1).bad("BAD ahead of STATE", x -> x.ranked(1, 9, 9, false, 2));
        counter(1, 4, 1).bad("BAD ahead of STATE: a", x -> x.ranked(1, 10, 9, false, 1));
        counter(1, 4, 1).bad("BAD ahead of STATE: b", x -> x.ranked(1, 9, 10, false, 1));
    }

    private static void rankedOfEachKind() {
        for (int kind = 0; kind <= 5; kind++) {
            if (kind != 4) {
                Bounds b = counter(1, kind, 1);
                b.finds("KIND " + kind, Due.UNLIKE, x -> x.ranked(1, 0, 0, true, 0));
                b.finds("STATE behind UNLIKE, KIND " + kind, Due.UNLIKE, x -> x.ranked(1, 9, 9, true, 0));
                b.bad("BAD ahead of UNLIKE, KIND " + kind, x -> x.ranked(1, 0, 10, true, 0));
            }
        }
    }

    // ---- 32: "CHANCE of i things at a ROOMED one (i -1: LOST), told by upper(), lower(): 1. BAD: a, i, too (i
    // above its room: judged behind UNLIKE); NOTHING; UNLIKE."

    private static void roomedComes() {
        for (Bounds b : new Bounds[] {EMPTY, counter(1, 0, 2), room(2, 3)}) {
            b.badOutside("a", 1, 9, (x, a) -> x.roomed(1, a, 0));
            b.badOutside("a, i above its room", 1, 9, (x, a) -> x.roomed(1, a, 9));
            b.badOutside("c", 0, 3, (x, c) -> x.roomed(c, 1, 0));
            b.badOutside("c, i above all room", 0, 3, (x, c) -> x.roomed(c, 1, MAX));
        }
        room(1, 1).tells("a 1", 1, 1, 2, x -> x.roomed(1, 1, 0));
        room(1, 1).tells("a 9", 1, 1, 10, x -> x.roomed(1, 9, 0));
        for (int c : new int[] {0, 3}) {
            counter(c, 5, 1).tells("COUNTER " + c, 1, 9, 10, x -> x.roomed(c, 9, 1));
        }
    }

    /** Each number of things in each room at each RATE, by the document's own words. */
    private static void roomedThings() {
        for (int rate : RATES) {
            for (int room = 1; room <= 6; room++) {
                for (int a = 1; a <= 9; a++) {
                    roomedAll(rate, room, a);
                }
            }
        }
    }

    private static void roomedAll(int rate, int room, int a) {
        PlainModel.Ratio sum = PlainModel.Ratio.ZERO;
        for (int i = 0; i <= room; i++) {
            sum = sum.plus(weight(rate, room, a, i));
        }
        WaitingNets x = room(rate, room).laid();
        for (int i = 0; i <= room; i++) {
            PlainModel.Ratio due = weight(rate, room, a, i).by(sum);
            DUE.tells("roomed " + i, x, x.roomed(1, a, i), 1, due.up.longValueExact(), due.low.longValueExact());
        }
        PlainModel.Ratio lost = weight(rate, room, a, room).by(sum).times(PlainModel.Ratio.of(a));
        DUE.tells("lost", x, x.roomed(1, a, -1), 1, lost.up.longValueExact(), lost.low.longValueExact());
        DUE.is("below -1", x.roomed(1, a, -2), WaitingNets.BAD);
        DUE.is("above its room", x.roomed(1, a, room + 1), WaitingNets.BAD);
    }

    private static PlainModel.Ratio weight(int rate, int room, int a, int i) {
        return PlainModel.Ratio.of(a).power(i).times(PlainModel.Ratio.of(rate).power(room - i));
    }

    private static void roomedAboveItsRoom() {
        for (int room = 1; room <= 6; room++) {
            int all = room;
            room(1, room).tells("i " + room, 1, 1, room + 1, x -> x.roomed(1, 1, all));
            for (int i : new int[] {room + 1, 7, 100, MAX}) {
                room(1, room).bad("i " + i + " above " + room, x -> x.roomed(1, 1, i));
            }
        }
        for (int i : new int[] {1, 2, 7, MAX}) {
            EMPTY.finds("behind NOTHING " + i, Due.NOTHING, x -> x.roomed(1, 1, i));
            for (int kind = 0; kind <= 4; kind++) {
                counter(1, kind, 1).finds("behind UNLIKE " + i, Due.UNLIKE, x -> x.roomed(1, 1, i));
            }
        }
    }

    private static void roomedBelow() {
        for (int i : new int[] {-2, -3, MIN}) {
            room(1, 6).bad("i " + i, x -> x.roomed(1, 1, i));
            EMPTY.bad("BAD ahead of NOTHING " + i, x -> x.roomed(1, 1, i));
            counter(1, 0, 1).bad("BAD ahead of UNLIKE " + i, x -> x.roomed(1, 1, i));
        }
        room(1, 1).tells("i 0", 1, 1, 2, x -> x.roomed(1, 1, 0));
        room(1, 1).tells("i -1: LOST", 1, 1, 2, x -> x.roomed(1, 1, -1));
        room(2, 1).tells("LOST, nine coming", 1, 81, 11, x -> x.roomed(1, 9, -1));
    }

    private static void roomedOrder() {
        for (int i = -1; i <= 6; i++) {
            int things = i;
            EMPTY.finds("NOTHING " + i, Due.NOTHING, x -> x.roomed(0, 9, things));
            room(1, 6).finds("NOTHING, another being there " + i, Due.NOTHING, x -> x.roomed(0, 9, things));
            for (int kind = 0; kind <= 4; kind++) {
                counter(0, kind, 12).finds("UNLIKE " + i, Due.UNLIKE, x -> x.roomed(0, 9, things));
            }
        }
    }

    // ---- 33 and 34: "a ROW of n times n rates (n 2 .. 6; 0 .. 12 each; (i, i) not looked at)"

    private static void chainRowNumbers() {
        for (Bounds b : new Bounds[] {EMPTY, rows(cycle(2, 1), 1, 1)}) {
            b.badOutside("lasting", 0, 5, (x, r) -> x.lasting(r, 0));
            b.badOutside("lasting, i being none", 0, 5, (x, r) -> x.lasting(r, -1));
            b.badOutside("parts", 0, 5, (x, r) -> x.parts(r));
        }
        for (int r : new int[] {0, 5}) {
            Bounds b = new Bounds(DUE, x -> Bounds.row(x, r, cycle(2, 1)));
            b.tells("lasting " + r, 1, 1, 2, x -> x.lasting(r, 0));
            b.asks("parts " + r, 1, 3, x -> x.parts(r));
        }
    }

    private static void chainSizes() {
        for (int size = 0; size <= 40; size++) {
            int n = side(size);
            if (n == 0) {
                Bounds b = rows(Bounds.alike(size, 1));
                b.finds("lasting of size " + size, Due.SIZE, x -> x.lasting(0, 0));
                b.finds("parts of size " + size, Due.SIZE, x -> x.parts(0));
            } else {
                Bounds b = rows(cycle(n, 12));
                b.tells("lasting of " + n, 1, 1, n, x -> x.lasting(0, n - 1));
                b.asks("parts of " + n, 1, (1 << n) - 1, x -> x.parts(0));
            }
        }
    }

    /** Each place but (i, i) with the number just inside and just outside of 0 .. 12. */
    private static void chainRates() {
        for (int n = 2; n <= 6; n++) {
            for (int place = 0; place < n * n; place++) {
                if (place % (n + 1) == 0) {
                    continue;
                }
                for (int v : Bounds.outside(0, 12)) {
                    Bounds b = rows(with(cycle(n, 3), place, v));
                    b.finds("lasting, rate " + v, Due.UNLIKE, x -> x.lasting(0, 0));
                    b.finds("parts, rate " + v, Due.UNLIKE, x -> x.parts(0));
                }
                WaitingNets x = rows(with(cycle(n, 3), place, 12)).laid();
                DUE.is("rate 12", x.lasting(0, 0), 1);
                DUE.is("parts, rate 12", x.parts(0), 1);
                x.lay(0, place, 0);
                DUE.is("rate 0", x.lasting(0, 0), 1);
                DUE.is("parts, rate 0", x.parts(0), 1);
            }
        }
    }

    private static void chainOwnPlaces() {
        for (int n = 2; n <= 6; n++) {
            for (int v : new int[] {-1, 13, MIN, MAX, 7}) {
                int[] rates = cycle(n, 1);
                for (int i = 0; i < n; i++) {
                    rates[i * n + i] = v;
                }
                Bounds b = rows(rates, Bounds.alike(n, 1));
                b.tells("lasting, (i, i) being " + v, 1, 1, n, x -> x.lasting(0, 0));
                b.asks("parts, (i, i) being " + v, 1, (1 << n) - 1, x -> x.parts(0));
                b.answers("judge, (i, i) being " + v, NONE, x -> x.judge(0, 1));
            }
        }
    }

    // ---- 33: "LASTING chance of state i of a CHAIN, told by upper(), lower(): 1. BAD; NOTHING; SIZE: not n times
    // n; UNLIKE: a rate; BEYOND: i; STATE: more than one set. (STATE last.)"

    private static void lastingStates() {
        for (int n = 2; n <= 6; n++) {
            Bounds b = rows(cycle(n, 2));
            b.tells("state 0 of " + n, 1, 1, n, x -> x.lasting(0, 0));
            int last = n - 1;
            b.tells("state " + last, 1, 1, n, x -> x.lasting(0, last));
            b.findsOutside("of " + n, Due.BEYOND, 0, last, (x, i) -> x.lasting(0, i));
        }
    }

    private static void lastingSets() {
        for (int n = 2; n <= 6; n++) {
            Bounds none = rows(new int[n * n]);
            for (int i = 0; i < n; i++) {
                int state = i;
                none.state("as many sets as states", x -> x.lasting(0, state));
            }
            // All but the last lead to it: one set. The first does not: two.
            int[] one = new int[n * n];
            for (int i = 0; i < n - 1; i++) {
                one[i * n + n - 1] = 1;
            }
            int last = n - 1;
            rows(one).tells("one set", 1, 1, 1, x -> x.lasting(0, last));
            rows(one).tells("0 by 1 of others", 1, 0, 1, x -> x.lasting(0, 0));
            rows(with(one, last, 0)).state("two sets", x -> x.lasting(0, last));
            rows(with(one, last, 0)).state("two sets, the first", x -> x.lasting(0, 0));
        }
    }

    /** "of those in it by sums; 0 of others". */
    private static void lastingOfOthers() {
        // 0 and 3 lead to 1; 1 and 2 to each other.
        int[] rates = {0, 12, 0, 0, 0, 0, 1, 0, 0, 11, 0, 0, 0, 1, 0, 12};
        Bounds b = rows(rates);
        b.tells("the first of others", 1, 0, 1, x -> x.lasting(0, 0));
        b.tells("in the set", 1, 11, 12, x -> x.lasting(0, 1));
        b.tells("in the set, too", 1, 1, 12, x -> x.lasting(0, 2));
        b.tells("the last of others", 1, 0, 1, x -> x.lasting(0, 3));
        for (int i = 0; i <= 3; i++) {
            int state = i;
            rows(with(rates, 13, 0)).state("the last alone is a second set", x -> x.lasting(0, state));
        }
    }

    private static void lastingOrder() {
        EMPTY.finds("NOTHING", Due.NOTHING, x -> x.lasting(0, 0));
        EMPTY.findsOutside("NOTHING ahead of BEYOND", Due.NOTHING, 0, 5, (x, i) -> x.lasting(0, i));
        Bounds size = rows(Bounds.alike(5, -1));
        size.finds("SIZE ahead of UNLIKE", Due.SIZE, x -> x.lasting(0, 0));
        size.findsOutside("SIZE ahead of BEYOND", Due.SIZE, 0, 5, (x, i) -> x.lasting(0, i));
        Bounds unlike = rows(new int[] {0, 0, 13, 0});
        unlike.finds("UNLIKE", Due.UNLIKE, x -> x.lasting(0, 0));
        unlike.findsOutside("UNLIKE ahead of BEYOND", Due.UNLIKE, 0, 1, (x, i) -> x.lasting(0, i));
        Bounds far = rows(with(new int[36], 35 - 1, -1));
        far.finds("UNLIKE ahead of STATE", Due.UNLIKE, x -> x.lasting(0, 0));
        Bounds sets = rows(new int[9]);
        sets.findsOutside("BEYOND ahead of STATE", Due.BEYOND, 0, 2, (x, i) -> x.lasting(0, i));
        sets.state("STATE last", x -> x.lasting(0, 2));
    }

    // ---- 34: "PARTS of a CHAIN; the states of the first (that with the least state) by asked() (bits). BAD;
    // NOTHING; SIZE; UNLIKE."

    private static void partsLeastAndMost() {
        for (int n = 2; n <= 6; n++) {
            rows(new int[n * n]).asks("each alone", n, 1, x -> x.parts(0));
            rows(cycle(n, 1)).asks("all together", 1, (1 << n) - 1, x -> x.parts(0));
            int back = (n - 1) * n;
            rows(with(cycle(n, 1), back, 0)).asks("the last alone", 1, 1 << (n - 1), x -> x.parts(0));
            rows(with(new int[n * n], 1, 1)).asks("the first leads on", n - 1, 2, x -> x.parts(0));
        }
        int[] two = new int[36];
        two[5] = two[30] = 1;
        two[1 * 6 + 2] = two[2 * 6 + 1] = 12;
        rows(two).asks("the set with the least state", 4, 33, x -> x.parts(0));
        rows(with(two, 1, 1)).asks("the first set is left", 3, 6, x -> x.parts(0));
    }

    private static void partsOrder() {
        EMPTY.finds("NOTHING", Due.NOTHING, x -> x.parts(5));
        rows(Bounds.alike(8, 13)).finds("SIZE ahead of UNLIKE", Due.SIZE, x -> x.parts(0));
        rows(Bounds.alike(9, 13)).finds("UNLIKE", Due.UNLIKE, x -> x.parts(0));
    }

    // ---- 35: "NONE they are; else the first state of which what comes is not what goes; n: all are 0. BAD;
    // NOTHING: either; SIZE: of the CHAIN, not n; UNLIKE: a rate, a number below 0 or above 1000000."

    private static void judgeRowNumbers() {
        for (Bounds b : new Bounds[] {EMPTY, rows(cycle(2, 1), 1, 1)}) {
            b.badOutside("the CHAIN", 0, 5, (x, r) -> x.judge(r, 1));
            b.badOutside("the chances", 0, 5, (x, r) -> x.judge(0, r));
        }
        Bounds b = new Bounds(DUE, x -> {
            Bounds.row(x, 5, cycle(2, 1));
            Bounds.row(x, 0, 1, 1);
        });
        b.answers("ROWS 5 and 0", NONE, x -> x.judge(5, 0));
        Bounds turned = new Bounds(DUE, x -> {
            Bounds.row(x, 0, cycle(2, 1));
            Bounds.row(x, 5, 1, 1);
        });
        turned.answers("ROWS 0 and 5", NONE, x -> x.judge(0, 5));
    }

    private static void judgeNumbers() {
        for (int n = 2; n <= 6; n++) {
            for (int place = 0; place < n; place++) {
                int[] chances = Bounds.alike(n, 1000000);
                rows(cycle(n, 12), chances).answers("1000000 each", NONE, x -> x.judge(0, 1));
                for (int v : Bounds.outside(0, 1000000)) {
                    rows(cycle(n, 12), with(chances, place, v)).finds("number " + v, Due.UNLIKE, x -> x.judge(0, 1));
                }
                int uneven = place == n - 1 ? 0 : place;
                rows(cycle(n, 12), with(chances, place, 0)).answers("one is 0", uneven, x -> x.judge(0, 1));
                rows(cycle(n, 1), with(chances, place, 999999)).answers("one less", uneven, x -> x.judge(0, 1));
            }
        }
    }

    private static void judgeSizes() {
        for (int n = 2; n <= 6; n++) {
            for (int size = 0; size <= 8; size++) {
                if (size != n) {
                    Bounds b = rows(cycle(n, 1), Bounds.alike(size, 1));
                    b.finds(size + " chances of " + n, Due.SIZE, x -> x.judge(0, 1));
                }
            }
            rows(cycle(n, 1), Bounds.alike(n, 1)).answers(n + " of " + n, NONE, x -> x.judge(0, 1));
        }
        for (int size = 0; size <= 40; size++) {
            if (side(size) == 0) {
                rows(Bounds.alike(size, 1), 1, 1).finds("CHAIN of size " + size, Due.SIZE, x -> x.judge(0, 1));
            }
        }
        rows(new int[0]).finds("none and none", Due.SIZE, x -> x.judge(0, 1));
        rows(cycle(2, 1)).finds("itself", Due.SIZE, x -> x.judge(0, 0));
    }

    private static void judgeAllZero() {
        for (int n = 2; n <= 6; n++) {
            int many = n;
            rows(cycle(n, 1), new int[n]).answers("all are 0", many, x -> x.judge(0, 1));
            rows(new int[n * n], new int[n]).answers("all are 0, nothing goes", many, x -> x.judge(0, 1));
            rows(new int[n * n], with(new int[n], n - 1, 1)).answers("one is 1", NONE, x -> x.judge(0, 1));
        }
    }

    private static void judgeFirstState() {
        int[] chain = {0, 1, 0, 0, 0, 2, 3, 0, 0};
        rows(chain, 6, 3, 2).answers("they are", NONE, x -> x.judge(0, 1));
        rows(chain, 6, 3, 3).answers("state 0", 0, x -> x.judge(0, 1));
        rows(chain, 6, 4, 2).answers("state 1", 1, x -> x.judge(0, 1));
        int[] passing = {0, 1, 0, 0, 0, 2, 0, 2, 0};
        rows(passing, 0, 1, 1).answers("0 of others", NONE, x -> x.judge(0, 1));
        rows(passing, 1, 1, 1).answers("not 0 of others", 0, x -> x.judge(0, 1));
        rows(passing, 0, 1, 2).answers("state 1, behind 0", 1, x -> x.judge(0, 1));
        // State 2 can be the first only if 0 and 1 are even: then all are.
        rows(new int[] {0, 12, 0, 0}, 0, 1000000).answers("all at the last", NONE, x -> x.judge(0, 1));
        rows(new int[] {0, 12, 0, 0}, 1, 1000000).answers("but one", 0, x -> x.judge(0, 1));
    }

    private static void judgeOrder() {
        Bounds chain = new Bounds(DUE, x -> Bounds.row(x, 0, cycle(2, 13)));
        chain.finds("NOTHING: the chances", Due.NOTHING, x -> x.judge(0, 1));
        chain.finds("NOTHING: the CHAIN", Due.NOTHING, x -> x.judge(1, 0));
        EMPTY.finds("NOTHING: both", Due.NOTHING, x -> x.judge(1, 0));
        new Bounds(DUE, x -> Bounds.row(x, 0, 1, 2, 3)).finds("NOTHING ahead of SIZE", Due.NOTHING, x -> x.judge(0, 1));
        rows(Bounds.alike(5, 13), -1, -1).finds("SIZE of the CHAIN ahead of UNLIKE", Due.SIZE, x -> x.judge(0, 1));
        rows(cycle(2, 13), 1).finds("not n ahead of UNLIKE: a rate", Due.SIZE, x -> x.judge(0, 1));
        rows(cycle(2, 1), -1, 1, 1).finds("not n ahead of UNLIKE: a number", Due.SIZE, x -> x.judge(0, 1));
        rows(cycle(2, 13), 0, 0).finds("UNLIKE, all being 0", Due.UNLIKE, x -> x.judge(0, 1));
        rows(cycle(2, -1), 1, 1).finds("UNLIKE: a rate", Due.UNLIKE, x -> x.judge(0, 1));
        rows(cycle(2, 1), -1, 1).finds("UNLIKE, the sum being 0", Due.UNLIKE, x -> x.judge(0, 1));
    }
}
