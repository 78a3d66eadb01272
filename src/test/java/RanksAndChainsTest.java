/** Promises 31 to 35: RANKED and ROOMED COUNTERS, CHAINS. */
public final class RanksAndChainsTest {
    private static final Due DUE = new Due("RanksAndChainsTest");
    private static final int[] NO_COUNTERS = {-1, 4, Integer.MIN_VALUE, Integer.MAX_VALUE};
    private static final int[] NO_ROWS = {-1, 6, Integer.MIN_VALUE, Integer.MAX_VALUE};

    public static void main(String[] args) {
        ranked();
        rankedRefused();
        roomed();
        roomedRefused();
        lasting();
        lastingGreat();
        chainRefused();
        parts();
        judge();
        judgeRefused();
        DUE.end();
    }

    private static void ranked() {
        WaitingNets x = new WaitingNets();
        x.counter(1, 4);
        x.rate(1, 12);
        DUE.tells("breaking, first", x, x.ranked(1, 4, 2, true, 0), 1, 1, 2);
        DUE.tells("breaking, second", x, x.ranked(1, 4, 2, true, 1), 1, 1, 2);
        DUE.tells("breaking, second, many", x, x.ranked(1, 3, 8, true, 1), 1, 32, 3);
        // waiting of the first 11 by 12 by 9, of the second 11 by 9 by 1
        DUE.tells("first", x, x.ranked(1, 3, 8, false, 0), 1, 5, 9);
        DUE.tells("second", x, x.ranked(1, 3, 8, false, 1), 1, 94, 9);
        DUE.tells("none of the first", x, x.ranked(1, 0, 6, false, 0), 1, 0, 1);
        DUE.tells("only the second", x, x.ranked(1, 0, 6, false, 1), 1, 1, 1);
        DUE.tells("none of the second", x, x.ranked(1, 9, 0, true, 1), 1, 0, 1);
        DUE.tells("only the first", x, x.ranked(1, 9, 0, false, 0), 1, 3, 1);
        DUE.tells("none at all", x, x.ranked(1, 0, 0, false, 1), 1, 0, 1);
    }

    private static void rankedRefused() {
        WaitingNets x = new WaitingNets();
        DUE.finds("none there", x, x.ranked(0, 1, 1, true, 0), Due.NOTHING);
        for (int kind = 0; kind <= 5; kind++) {
            x.counter(0, kind);
            if (kind != 4) {
                DUE.finds("UNLIKE ahead of STATE", x, x.ranked(0, 9, 9, true, 0), Due.UNLIKE);
            }
        }
        x.counter(0, 4);
        x.rate(0, 6);
        DUE.is("as many as the RATE", x.ranked(0, 3, 3, true, 0), WaitingNets.STATE);
        DUE.is("more", x.ranked(0, 9, 9, false, 1), WaitingNets.STATE);
        DUE.is("one fewer", x.ranked(0, 3, 2, false, 1), 1);
        int[][] wrong = {{-1, 0, 0}, {10, 0, 0}, {0, -1, 0}, {0, 10, 0}, {0, 0, -1}, {0, 0, 2}};
        for (int[] w : wrong) {
            DUE.is("wrong", x.ranked(0, w[0], w[1], true, w[2]), WaitingNets.BAD);
            DUE.is("wrong of none", x.ranked(1, w[0], w[1], false, w[2]), WaitingNets.BAD);
        }
        for (int c : NO_COUNTERS) {
            DUE.is("ranked " + c, x.ranked(c, 0, 0, true, 0), WaitingNets.BAD);
        }
    }

    private static void roomed() {
        WaitingNets x = new WaitingNets();
        x.counter(3, 5);
        x.rate(3, 2);
        DUE.tells("room 1, empty", x, x.roomed(3, 3, 0), 1, 2, 5);
        DUE.tells("room 1, full", x, x.roomed(3, 3, 1), 1, 3, 5);
        DUE.tells("room 1, lost", x, x.roomed(3, 3, -1), 1, 9, 5);
        x.room(3, 3);
        DUE.tells("room 3, none", x, x.roomed(3, 3, 0), 1, 8, 65);
        DUE.tells("room 3, two", x, x.roomed(3, 3, 2), 1, 18, 65);
        DUE.tells("room 3, lost", x, x.roomed(3, 3, -1), 1, 81, 65);
        x.room(3, 6);
        x.rate(3, 12);
        DUE.tells("room 6, alike", x, x.roomed(3, 9, 6), 1, 729, 14197);
        DUE.tells("room 6, lost", x, x.roomed(3, 9, -1), 1, 6561, 14197);
    }

    private static void roomedRefused() {
        WaitingNets x = new WaitingNets();
        DUE.finds("none there", x, x.roomed(0, 1, 99), Due.NOTHING);
        for (int kind = 0; kind <= 4; kind++) {
            x.counter(0, kind);
            DUE.finds("UNLIKE ahead of i", x, x.roomed(0, 1, 2), Due.UNLIKE);
        }
        x.counter(0, 5);
        DUE.is("i above its room", x.roomed(0, 1, 2), WaitingNets.BAD);
        DUE.is("i far above", x.roomed(0, 1, Integer.MAX_VALUE), WaitingNets.BAD);
        DUE.is("i -2", x.roomed(0, 1, -2), WaitingNets.BAD);
        DUE.is("i -2 of none", x.roomed(1, 1, -2), WaitingNets.BAD);
        DUE.is("a 0", x.roomed(0, 0, 0), WaitingNets.BAD);
        DUE.is("a 10", x.roomed(0, 10, 0), WaitingNets.BAD);
        DUE.is("a 0 of none", x.roomed(1, 0, 0), WaitingNets.BAD);
        for (int c : NO_COUNTERS) {
            DUE.is("roomed " + c, x.roomed(c, 1, 0), WaitingNets.BAD);
        }
        DUE.is("nothing told", x.lower(), 1);
    }

    private static void lasting() {
        WaitingNets x = new WaitingNets();
        Due.lay(x, 0, 99, 1, 3, -7);
        DUE.tells("two states, first", x, x.lasting(0, 0), 1, 3, 4);
        DUE.tells("two states, second", x, x.lasting(0, 1), 1, 1, 4);
        Due.lay(x, 0, 0, 1, 0, 0, 0, 1, 0, 2, 0);
        DUE.tells("passing", x, x.lasting(0, 0), 1, 0, 1);
        DUE.tells("in the set", x, x.lasting(0, 1), 1, 2, 3);
        DUE.tells("in the set too", x, x.lasting(0, 2), 1, 1, 3);
        DUE.finds("state 3", x, x.lasting(0, 3), Due.BEYOND);
        DUE.finds("state -1", x, x.lasting(0, -1), Due.BEYOND);
        Due.lay(x, 0, 0, 0, 0, 0, 0, 1, 0, 2, 0);
        DUE.tells("two sets", x, x.lasting(0, 0), WaitingNets.STATE, 1, 3);
        DUE.finds("BEYOND ahead of STATE", x, x.lasting(0, 3), Due.BEYOND);
        Due.lay(x, 0, 0, 5, 0, 0);
        DUE.tells("one that none leaves", x, x.lasting(0, 1), 1, 1, 1);
        DUE.tells("what leads to it", x, x.lasting(0, 0), 1, 0, 1);
    }

    private static void lastingGreat() {
        WaitingNets x = new WaitingNets();
        x.row(4, 36);
        for (int i = 0; i < 36; i++) {
            x.lay(4, i, 12);
        }
        for (int i = 0; i < 6; i++) {
            DUE.tells("all alike", x, x.lasting(4, i), 1, 1, 6);
        }
        x.lay(4, 1, 11);
        DUE.tells("one rate less", x, x.lasting(4, 0), 1, 12, 71);
        DUE.tells("one rate less, to", x, x.lasting(4, 1), 1, 35, 213);
        DUE.tells("one rate less, others", x, x.lasting(4, 2), 1, 1, 6);
    }

    private static void chainRefused() {
        WaitingNets x = new WaitingNets();
        for (int r : NO_ROWS) {
            DUE.is("lasting of " + r, x.lasting(r, 0), WaitingNets.BAD);
            DUE.is("parts of " + r, x.parts(r), WaitingNets.BAD);
        }
        DUE.finds("lasting of none", x, x.lasting(0, 9), Due.NOTHING);
        DUE.finds("parts of none", x, x.parts(0), Due.NOTHING);
        for (int n : new int[] {0, 1, 2, 3, 5, 8, 10, 35, 37, 40}) {
            x.row(0, n);
            DUE.finds("lasting with size " + n, x, x.lasting(0, 9), Due.SIZE);
            DUE.finds("parts with size " + n, x, x.parts(0), Due.SIZE);
        }
        for (int v : new int[] {-1, 13, Integer.MIN_VALUE, Integer.MAX_VALUE}) {
            Due.lay(x, 0, v, 1, v, v);
            DUE.finds("lasting with rate " + v, x, x.lasting(0, 9), Due.UNLIKE);
            DUE.finds("parts with rate " + v, x, x.parts(0), Due.UNLIKE);
            Due.lay(x, 0, v, 1, 12, v);
            DUE.is("(i, i) is not looked at", x.parts(0), 1);
        }
    }

    private static void parts() {
        WaitingNets x = new WaitingNets();
        x.row(0, 36);
        DUE.asks("six that none leaves", x, x.parts(0), 6, 1);
        x.row(0, 16);
        x.lay(0, 1, 1);
        DUE.asks("three, the first left", x, x.parts(0), 3, 2);
        x.lay(0, 11, 2);
        x.lay(0, 14, 3);
        DUE.asks("a set of two", x, x.parts(0), 2, 2);
        x.lay(0, 6, 1);
        DUE.asks("only the set of two", x, x.parts(0), 1, 12);
        x.lay(0, 12, 1);
        DUE.asks("all", x, x.parts(0), 1, 15);
        x.row(0, 9);
        x.lay(0, 2, 1);
        x.lay(0, 6, 1);
        DUE.asks("the least state's set", x, x.parts(0), 2, 5);
        x.row(0, 5);
        DUE.is("refused", x.parts(0), WaitingNets.FINDING);
        DUE.is("asked stays", x.asked(), 5);
    }

    private static void judge() {
        WaitingNets x = new WaitingNets();
        Due.lay(x, 0, 5, 1, 0, 2, 5, 3, 0, 1, 5);
        Due.lay(x, 1, 2, 1, 3);
        DUE.is("they are", x.judge(0, 1), WaitingNets.NONE);
        Due.lay(x, 1, 666666, 333333, 999999);
        DUE.is("they are, by their sum", x.judge(0, 1), WaitingNets.NONE);
        Due.lay(x, 1, 2, 1, 4);
        DUE.is("the second is not", x.judge(0, 1), 1);
        Due.lay(x, 1, 0, 0, 1);
        DUE.is("only the third is told", x.judge(0, 1), 1);
        Due.lay(x, 1, 1, 1, 3);
        DUE.is("the first is not", x.judge(0, 1), 0);
        Due.lay(x, 1, 0, 0, 0);
        DUE.is("all are 0", x.judge(0, 1), 3);
        x.row(0, 9);
        Due.lay(x, 1, 4, 0, 9);
        DUE.is("nothing goes", x.judge(0, 1), WaitingNets.NONE);
        x.row(0, 36);
        for (int i = 0; i < 36; i++) {
            x.lay(0, i, 12);
        }
        Due.lay(x, 1, 1000000, 1000000, 1000000, 1000000, 1000000, 999999);
        DUE.is("great ones", x.judge(0, 1), 0);
        x.lay(1, 5, 1000000);
        DUE.is("great ones alike", x.judge(0, 1), WaitingNets.NONE);
    }

    private static void judgeRefused() {
        WaitingNets x = new WaitingNets();
        Due.lay(x, 0, 0, 1, 1, 0);
        for (int r : NO_ROWS) {
            DUE.is("judge of " + r, x.judge(r, 0), WaitingNets.BAD);
            DUE.is("judge by " + r, x.judge(0, r), WaitingNets.BAD);
        }
        DUE.finds("no chances", x, x.judge(0, 1), Due.NOTHING);
        DUE.finds("no chain", x, x.judge(1, 0), Due.NOTHING);
        Due.lay(x, 1, 1, 1, -1);
        DUE.finds("three of two", x, x.judge(0, 1), Due.SIZE);
        DUE.finds("no square", x, x.judge(1, 0), Due.SIZE);
        DUE.finds("itself", x, x.judge(0, 0), Due.SIZE);
        Due.lay(x, 1, 1, -1);
        DUE.finds("below 0", x, x.judge(0, 1), Due.UNLIKE);
        Due.lay(x, 1, 1, 1000001);
        DUE.finds("above 1000000", x, x.judge(0, 1), Due.UNLIKE);
        Due.lay(x, 1, 0, 0);
        Due.lay(x, 0, 0, 13, 1, 0);
        DUE.finds("a rate", x, x.judge(0, 1), Due.UNLIKE);
        Due.lay(x, 0, 13, 1, 1, 13);
        DUE.is("(i, i) is not looked at", x.judge(0, 1), 2);
    }
}
