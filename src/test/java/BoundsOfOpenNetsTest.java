/** Promises 17 to 20 at their bounds: each method holds one sentence of the document. */
public final class BoundsOfOpenNetsTest {
    private static final Due DUE = new Due("BoundsOfOpenNetsTest");

    private static final Bounds EMPTY = new Bounds(DUE, Bounds.NOTHING_LAID);

    /** COUNTER 1 keeps what comes to it; 0 can be left; 2 is missing; none come to 3. */
    private static final Bounds KEPT = new Bounds(DUE, x -> {
        x.counter(0, 0);
        x.counter(1, 1);
        x.counter(3, 0);
        x.comes(0, 2);
        x.comes(1, 1);
        x.way(1, 1, 4);
    });

    public static void main(String[] args) {
        counterNumbers();
        keptByNone();
        keptByAQuarter();
        keptByOneThing();
        keptByAll();
        keptAgain();
        flowOfNone();
        flowLeastAndMost();
        flowKept();
        useFull();
        useOfEachKind();
        useOfTwoHands();
        useNearlyFull();
        useRefused();
        meanNearlyFull();
        meanOfTwoHandsNearlyFull();
        meanFull();
        meanOfEndless();
        meanOthersFull();
        meanNotProduct();
        meanKept();
        waitWithFlow0();
        meanOrder();
        DUE.end();
    }

    /** One COUNTER of these, to which so many come. */
    private static Bounds one(int kind, int rate, int hands, int comes) {
        return new Bounds(DUE, x -> {
            x.counter(2, kind);
            x.rate(2, rate);
            if (kind == 0) {
                x.hands(2, hands);
            }
            x.comes(2, comes);
        });
    }

    /** Three come to each, a quarter of each goes to the next: the last has FLOW 255 by 64. */
    private static Bounds nearly(int kind, int rate, int hands) {
        return new Bounds(DUE, x -> {
            for (int c = 0; c <= 3; c++) {
                x.counter(c, c == 3 ? kind : 0);
                x.rate(c, c == 3 ? rate : 4);
                x.comes(c, 3);
            }
            for (int c = 0; c < 3; c++) {
                x.way(c, c + 1, 1);
            }
            if (kind == 0) {
                x.hands(3, hands);
            }
        });
    }

    private static void counterNumbers() {
        for (Bounds b : new Bounds[] {EMPTY, KEPT, one(5, 1, 1, 0)}) {
            b.badOutside("flow", 0, 3, (x, c) -> x.flow(c));
            b.badOutside("use", 0, 3, (x, c) -> x.use(c));
            b.badOutside("mean", 0, 3, (x, c) -> x.mean(c, false));
            b.badOutside("wait", 0, 3, (x, c) -> x.mean(c, true));
        }
        for (int c : new int[] {0, 3}) {
            Bounds b = new Bounds(DUE, x -> {
                x.counter(c, 0);
                x.rate(c, 2);
                x.comes(c, 1);
            });
            b.tells("flow " + c, 1, 1, 1, x -> x.flow(c));
            b.tells("use " + c, 0, 1, 2, x -> x.use(c));
            b.tells("mean " + c, 1, 1, 1, x -> x.mean(c, false));
            b.tells("wait " + c, 1, 1, 1, x -> x.mean(c, true));
        }
    }

    // ---- 17: "KEPT (bits)."

    private static void keptByNone() {
        EMPTY.answers("no COUNTERS", 0, x -> x.kept());
        Bounds none = new Bounds(DUE, x -> {
            for (int c = 0; c <= 3; c++) {
                x.counter(c, 0);
                x.way(c, c, 4);
            }
        });
        none.answers("none come", 0, x -> x.kept());
    }

    /** "what is left of 4 leaves the net": one quarter is enough, none is not. */
    private static void keptByAQuarter() {
        for (int q = 0; q <= 4; q++) {
            int many = q;
            Bounds b = new Bounds(DUE, x -> {
                x.counter(2, 0);
                x.comes(2, 9);
                x.way(2, 2, many);
            });
            b.answers(q + " stay", q == 4 ? 4 : 0, x -> x.kept());
        }
        Bounds far = new Bounds(DUE, x -> {
            for (int c = 0; c <= 3; c++) {
                x.counter(c, 3);
            }
            x.comes(0, 1);
            x.way(0, 1, 4);
            x.way(1, 2, 4);
            x.way(2, 3, 1);
            x.way(2, 0, 3);
            x.way(3, 0, 3);
        });
        far.answers("a quarter leaves the last", 0, x -> x.kept());
        WaitingNets x = far.laid();
        x.way(3, 3, 1);
        DUE.is("nothing leaves the last", x.kept(), 15);
    }

    private static void keptByOneThing() {
        for (int many = 0; many <= 9; many++) {
            int m = many;
            Bounds b = new Bounds(DUE, x -> {
                x.counter(1, 0);
                x.counter(3, 0);
                x.way(3, 1, 4);
                x.way(1, 1, 4);
                x.comes(3, m);
            });
            b.answers(many + " come", many == 0 ? 0 : 10, x -> x.kept());
        }
    }

    private static void keptByAll() {
        for (int comes = 0; comes < 16; comes++) {
            int bits = comes;
            Bounds b = new Bounds(DUE, x -> {
                for (int c = 0; c <= 3; c++) {
                    x.counter(c, c + 2);
                    x.way(c, c, 4);
                    x.comes(c, bits >> c & 1);
                }
            });
            b.answers("those to which some come " + comes, comes, x -> x.kept());
        }
    }

    /** "those that can not be left": one from which things may come to what keeps can be left itself. */
    private static void keptAgain() {
        Bounds b = new Bounds(DUE, x -> {
            x.counter(0, 0);
            x.counter(1, 0);
            x.comes(0, 1);
            x.way(0, 1, 3);
            x.way(1, 1, 4);
        });
        b.answers("the first can be left", 2, x -> x.kept());
        WaitingNets x = b.laid();
        x.drop(1);
        DUE.is("without what keeps", x.kept(), 0);
        x = b.laid();
        x.comes(0, 0);
        DUE.is("none come", x.kept(), 0);
        x = b.laid();
        x.way(0, 0, 1);
        DUE.is("neither can be left", x.kept(), 3);
    }

    // ---- 18: "FLOW, told by upper(), lower(): 1. BAD; STATE: some are KEPT; NOTHING. (STATE behind NOTHING.)"

    /** "FLOW of a COUNTER to which none come is 0." */
    private static void flowOfNone() {
        for (int kind = 0; kind <= 5; kind++) {
            one(kind, 1, 1, 0).tells("KIND " + kind, 1, 0, 1, x -> x.flow(2));
        }
        Bounds b = new Bounds(DUE, x -> {
            for (int c = 0; c <= 3; c++) {
                x.counter(c, 0);
            }
            x.comes(3, 7);
            x.way(0, 1, 4);
            x.way(1, 0, 4);
            x.way(2, 3, 4);
        });
        for (int c = 0; c <= 2; c++) {
            int k = c;
            b.tells("none come to " + c, 1, 0, 1, x -> x.flow(k));
        }
        b.tells("WAYS from where none come bring nothing", 1, 7, 1, x -> x.flow(3));
    }

    private static void flowLeastAndMost() {
        one(0, 1, 1, 1).tells("one comes", 1, 1, 1, x -> x.flow(2));
        one(0, 1, 1, 9).tells("nine come", 1, 9, 1, x -> x.flow(2));
        Bounds least = new Bounds(DUE, x -> {
            for (int c = 0; c <= 3; c++) {
                x.counter(c, 4);
            }
            for (int c = 0; c < 3; c++) {
                x.way(c, c + 1, 1);
            }
            x.comes(0, 1);
        });
        least.tells("a quarter of a quarter of a quarter", 1, 1, 64, x -> x.flow(3));
        Bounds most = new Bounds(DUE, x -> {
            for (int c = 0; c <= 3; c++) {
                x.counter(c, 5);
                x.comes(c, 9);
            }
            for (int c = 0; c < 3; c++) {
                x.way(c, c + 1, 4);
            }
            x.way(3, 0, 3);
        });
        most.tells("all come round four times", 1, 144, 1, x -> x.flow(3));
        most.tells("the first, but for those that leave", 1, 117, 1, x -> x.flow(0));
    }

    private static void flowKept() {
        for (int c : new int[] {0, 1, 3}) {
            KEPT.state("flow of " + c, x -> x.flow(c));
        }
        KEPT.finds("STATE behind NOTHING", Due.NOTHING, x -> x.flow(2));
        KEPT.badOutside("BAD ahead of STATE", 0, 3, (x, c) -> x.flow(c));
        EMPTY.finds("NOTHING", Due.NOTHING, x -> x.flow(0));
        WaitingNets x = KEPT.laid();
        x.way(1, 1, 3);
        DUE.tells("a quarter leaves", x, x.flow(1), 1, 4, 1);
    }

    // ---- 19: "USE, told by upper(), lower(): 1 FULL, else 0. BAD; NOTHING; STATE. (STATE behind NOTHING.)"

    /** "FULL is a COUNTER (not ENDLESS), if its USE is 1 or more." */
    private static void useFull() {
        one(0, 4, 1, 3).tells("3 of 4", 0, 3, 4, x -> x.use(2));
        one(0, 4, 1, 4).tells("4 of 4", 1, 1, 1, x -> x.use(2));
        one(0, 4, 1, 5).tells("5 of 4", 1, 5, 4, x -> x.use(2));
        one(0, 1, 1, 0).tells("0 of 1", 0, 0, 1, x -> x.use(2));
        one(0, 12, 2, 9).tells("9 of 24", 0, 3, 8, x -> x.use(2));
    }

    private static void useOfEachKind() {
        for (int kind = 0; kind <= 5; kind++) {
            int full = kind == 3 ? 0 : 1;
            one(kind, 6, 1, 5).tells("5 of 6, KIND " + kind, 0, 5, 6, x -> x.use(2));
            one(kind, 6, 1, 6).tells("6 of 6, KIND " + kind, full, 1, 1, x -> x.use(2));
            one(kind, 6, 1, 7).tells("7 of 6, KIND " + kind, full, 7, 6, x -> x.use(2));
            one(kind, 6, 1, 0).tells("0 of 6, KIND " + kind, 0, 0, 1, x -> x.use(2));
        }
    }

    private static void useOfTwoHands() {
        one(0, 3, 2, 5).tells("5 of twice 3", 0, 5, 6, x -> x.use(2));
        one(0, 3, 2, 6).tells("6 of twice 3", 1, 1, 1, x -> x.use(2));
        one(0, 3, 2, 7).tells("7 of twice 3", 1, 7, 6, x -> x.use(2));
        one(0, 3, 1, 3).tells("3 of 3", 1, 1, 1, x -> x.use(2));
    }

    private static void useNearlyFull() {
        for (int kind = 0; kind <= 5; kind++) {
            nearly(kind, 4, 1).tells("255 of 256, KIND " + kind, 0, 255, 256, x -> x.use(3));
        }
        nearly(0, 2, 2).tells("255 of 256, two hands", 0, 255, 256, x -> x.use(3));
        WaitingNets x = nearly(0, 4, 1).laid();
        x.way(3, 3, 1);
        DUE.tells("a third more", x, x.use(3), 1, 85, 64);
    }

    private static void useRefused() {
        for (int c : new int[] {0, 1, 3}) {
            KEPT.state("use of " + c, x -> x.use(c));
        }
        KEPT.finds("STATE behind NOTHING", Due.NOTHING, x -> x.use(2));
        KEPT.badOutside("BAD ahead of STATE", 0, 3, (x, c) -> x.use(c));
        EMPTY.finds("NOTHING", Due.NOTHING, x -> x.use(0));
    }

    // ---- 20: "MEAN (wait: WAIT), told by upper(), lower(): 1. BAD; NOTHING; STATE: some are KEPT, the net is
    // not PRODUCT, the COUNTER is FULL; NOUGHT: WAIT with FLOW 0. (In this order.)"

    private static void meanNearlyFull() {
        for (int kind = 0; kind <= 2; kind++) {
            nearly(kind, 4, 1).tells("mean of KIND " + kind, 1, 255, 1, x -> x.mean(3, false));
            nearly(kind, 4, 1).tells("wait of KIND " + kind, 1, 64, 1, x -> x.mean(3, true));
        }
    }

    private static void meanOfTwoHandsNearlyFull() {
        nearly(0, 2, 2).tells("mean", 1, 130560, 511, x -> x.mean(3, false));
        nearly(0, 2, 2).tells("wait", 1, 32768, 511, x -> x.mean(3, true));
    }

    private static void meanFull() {
        for (int kind = 0; kind <= 2; kind++) {
            for (boolean wait : new boolean[] {false, true}) {
                one(kind, 6, 1, 6).state("just FULL, KIND " + kind, x -> x.mean(2, wait));
                one(kind, 6, 1, 7).state("more than FULL, KIND " + kind, x -> x.mean(2, wait));
                one(0, 3, 2, 6).state("two hands just FULL", x -> x.mean(2, wait));
                one(0, 3, 2, 9).state("two hands more than FULL", x -> x.mean(2, wait));
            }
            one(kind, 6, 1, 5).tells("not FULL, KIND " + kind, 1, 5, 1, x -> x.mean(2, false));
            one(kind, 6, 1, 5).tells("wait, not FULL, KIND " + kind, 1, 1, 1, x -> x.mean(2, true));
        }
        one(0, 3, 2, 5).tells("two hands not FULL", 1, 60, 11, x -> x.mean(2, false));
        one(0, 3, 2, 5).tells("two hands not FULL, wait", 1, 12, 11, x -> x.mean(2, true));
    }

    private static void meanOfEndless() {
        one(3, 6, 1, 6).tells("USE 1", 1, 1, 1, x -> x.mean(2, false));
        one(3, 1, 1, 9).tells("USE 9", 1, 9, 1, x -> x.mean(2, false));
        one(3, 1, 1, 9).tells("USE 9, wait", 1, 1, 1, x -> x.mean(2, true));
        one(3, 12, 1, 1).tells("USE 1 by 12", 1, 1, 12, x -> x.mean(2, false));
        one(3, 12, 1, 0).tells("USE 0", 1, 0, 1, x -> x.mean(2, false));
    }

    /** "(The others may be FULL.)" */
    private static void meanOthersFull() {
        Bounds b = new Bounds(DUE, x -> {
            x.counter(0, 0);
            x.comes(0, 9);
            x.counter(1, 0);
            x.rate(1, 12);
            x.way(0, 1, 4);
        });
        b.tells("the other is FULL", 1, 3, 1, x -> x.mean(1, false));
        b.tells("the other is FULL, wait", 1, 1, 3, x -> x.mean(1, true));
        b.state("it is FULL itself", x -> x.mean(0, false));
    }

    private static void meanNotProduct() {
        for (int kind = 4; kind <= 5; kind++) {
            one(kind, 6, 1, 1).state("KIND " + kind, x -> x.mean(2, false));
            one(kind, 6, 1, 1).state("wait, KIND " + kind, x -> x.mean(2, true));
            int other = kind;
            Bounds b = new Bounds(DUE, x -> {
                x.counter(0, 0);
                x.rate(0, 2);
                x.comes(0, 1);
                x.counter(1, other);
            });
            b.state("another of KIND " + kind, x -> x.mean(0, false));
            WaitingNets x = b.laid();
            x.drop(1);
            DUE.tells("without it", x, x.mean(0, false), 1, 1, 1);
        }
    }

    private static void meanKept() {
        for (int c : new int[] {0, 1, 3}) {
            KEPT.state("mean of " + c, x -> x.mean(c, false));
            KEPT.state("wait of " + c, x -> x.mean(c, true));
        }
    }

    private static void waitWithFlow0() {
        for (int kind = 0; kind <= 3; kind++) {
            one(kind, 6, 1, 0).finds("KIND " + kind, Due.NOUGHT, x -> x.mean(2, true));
            one(kind, 6, 1, 0).tells("MEAN, KIND " + kind, 1, 0, 1, x -> x.mean(2, false));
            one(kind, 6, 1, 1).tells("one comes, KIND " + kind, 1, 1, kind == 3 ? 6 : 5, x -> x.mean(2, true));
        }
        one(0, 6, 2, 0).finds("two hands", Due.NOUGHT, x -> x.mean(2, true));
        one(0, 6, 2, 0).tells("MEAN, two hands", 1, 0, 1, x -> x.mean(2, false));
    }

    private static void meanOrder() {
        for (boolean wait : new boolean[] {false, true}) {
            KEPT.finds("NOTHING ahead of STATE: KEPT", Due.NOTHING, x -> x.mean(2, wait));
            one(4, 1, 1, 9).finds("NOTHING ahead of STATE: not PRODUCT", Due.NOTHING, x -> x.mean(0, wait));
            EMPTY.finds("NOTHING", Due.NOTHING, x -> x.mean(3, wait));
        }
        KEPT.state("KEPT ahead of NOUGHT", x -> x.mean(3, true));
        one(4, 1, 1, 0).state("not PRODUCT ahead of NOUGHT: RANKED", x -> x.mean(2, true));
        one(5, 1, 1, 0).state("not PRODUCT ahead of NOUGHT: ROOMED", x -> x.mean(2, true));
    }
}
