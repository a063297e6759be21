/** Promises 5, 6, 7, 8, 10, 11 and 19: pair, free, mark, resettle, heap, cost and count. */
public final class HeapsTest {
    private static final Due due = new Due();

    public static void main(String[] args) {
        aboveAndBelowT();
        theMostFirst();
        leastReportFirst();
        leastHeapFirst();
        aloneLast();
        movesAheadOfMeltings();
        meltingsInOrder();
        meltingWhereNoMoveHelps();
        wishesAndTheirEnd();
        wrongPairs();
        edgesOfT();
        resettled();
        costs();
        commonAsItIsThen();
        counts();
        due.end("HeapsTest");
    }

    private static void aboveAndBelowT() {
        FaultHeaps x = new FaultHeaps();
        Due.tell(x, 0, 1, 2, 3);
        Due.tell(x, 0, 4, 5, 3);
        due.same("at T", x.distance(0, 1), 6);
        due.heaps("at T they stay apart", x, 0, 1);
        due.same("at T nothing costs", x.cost(0, 1), 0);
        x.mark(7);
        due.heaps("below T", x, 0, 0);
        x.mark(6);
        due.heaps("at T they stay together", x, 0, 0);
        x.mark(5);
        due.heaps("above T", x, 0, 1);
        due.same("two changes", x.count(6), 2);
    }

    private static void theMostFirst() {
        FaultHeaps x = new FaultHeaps();
        Due.tell(x, 0, 1, 2, 3);
        Due.tell(x, 0, 1, 2, 4);
        Due.tell(x, 0, 1, 2, 4);
        x.pair(0, 2, false);
        due.same("resettle", x.resettle(), 2);
        due.heaps("1 goes to 2, as that lessens it by 6, not by 3", x, 0, 1, 1);
        due.same("its cost", x.cost(0, FaultHeaps.NONE), 6);
    }

    private static void leastReportFirst() {
        FaultHeaps x = Due.evenOnes(3);
        Due.lay(x, 0, 1);
        due.heaps("laid", x, 0, 0, 2);
        x.pair(2, 1, true);
        due.heaps("1 moves, not 2", x, 0, 1, 1);
    }

    private static void leastHeapFirst() {
        FaultHeaps x = Due.evenOnes(3);
        x.pair(0, 1, true);
        x.pair(0, 2, true);
        x.pair(1, 2, false);
        x.resettle();
        due.heaps("0 goes to 1, not to 2", x, 0, 0, 2);

        // The HEAP of 1 and 4 came later than that of 2 and 3, but has the less REPORT in it.
        FaultHeaps y = Due.evenOnes(6);
        Due.lay(y, 2, 3);
        Due.lay(y, 1, 4);
        Due.lay(y, 0, 5);
        due.heaps("laid", y, 0, 1, 2, 2, 1, 0);
        y.pair(0, 5, false);
        due.heaps("0 goes to 1 and 4", y, 0, 0, 2, 2, 0, 5);
    }

    private static void aloneLast() {
        FaultHeaps x = Due.evenOnes(3);
        Due.lay(x, 0, 1);
        x.pair(0, 1, false);
        due.heaps("0 goes to 2, not alone", x, 0, 1, 0);

        FaultHeaps y = Due.evenOnes(2);
        Due.lay(y, 0, 1);
        y.pair(0, 1, false);
        due.heaps("alone, as there is no other heap", y, 0, 1);
    }

    private static void movesAheadOfMeltings() {
        FaultHeaps x = Due.evenOnes(4);
        Due.lay(x, 0, 1);
        Due.lay(x, 2, 3);
        x.pair(1, 2, true);
        due.heaps("1 moves", x, 0, 1, 1, 1);
        due.same("changes", x.count(6), 3);
    }

    private static FaultHeaps threeTwos(int notOne, int notOther) {
        FaultHeaps x = Due.evenOnes(6);
        x.pair(0, 1, true);
        x.pair(2, 3, true);
        x.pair(4, 5, true);
        x.pair(notOne, notOther, false);
        x.mark(4);
        return x;
    }

    private static void meltingsInOrder() {
        due.heaps("the least other one", threeTwos(2, 4), 0, 0, 0, 0, 4, 4);
        due.heaps("the least one", threeTwos(0, 4), 0, 0, 0, 0, 4, 4);
        due.heaps("the only ones", threeTwos(0, 2), 0, 0, 2, 2, 0, 0);
        FaultHeaps x = threeTwos(2, 4);
        due.same("three moves and one melting", x.count(6), 4);
        due.same("its cost", x.cost(0, FaultHeaps.NONE), 8);
    }

    private static void meltingWhereNoMoveHelps() {
        FaultHeaps x = Due.evenOnes(4);
        x.pair(0, 1, true);
        x.pair(2, 3, true);
        x.mark(4);
        due.heaps("all melted", x, 0, 0, 0, 0);
        due.same("one heap", x.count(1), 1);
        due.same("changes", x.count(6), 3);
    }

    private static void wishesAndTheirEnd() {
        FaultHeaps x = Due.evenOnes(2);
        due.yes("pair(0, 1, true)", x.pair(0, 1, true));
        due.heaps("must", x, 0, 0);
        due.yes("pair(1, 0, false)", x.pair(1, 0, false));
        due.heaps("what was told ahead is void", x, 0, 1);
        due.same("nothing costs", x.cost(0, 1), 0);
        due.yes("free(0, 1)", x.free(0, 1));
        due.heaps("freed", x, 0, 1);
        due.no("free(1, 0) again", x.free(1, 0));
        x.mark(4);
        due.heaps("free to be together", x, 0, 0);
        due.yes("not", x.pair(0, 1, false));
        due.heaps("not", x, 0, 1);
        due.yes("free(1, 0)", x.free(1, 0));
        due.heaps("all is settled behind free", x, 0, 0);
    }

    private static void wrongPairs() {
        FaultHeaps x = Due.evenOnes(3);
        int[][] wrong = {{0, 0}, {0, 3}, {3, 0}, {-1, 0}, {0, -1}, {40, 41}, {3, 3}, {Integer.MIN_VALUE, 0}};
        for (int[] two : wrong) {
            due.no("pair of " + two[0] + " and " + two[1], x.pair(two[0], two[1], true));
            due.no("not for " + two[0] + " and " + two[1], x.pair(two[0], two[1], false));
            due.no("free of " + two[0] + " and " + two[1], x.free(two[0], two[1]));
        }
        due.no("free of two of which nothing was told", x.free(0, 1));
        due.heaps("nothing is changed", x, 0, 1, 2);
        due.same("heap(3)", x.heap(3), -1);
        due.same("heap(-1)", x.heap(-1), -1);
        due.same("heap(40)", x.heap(40), -1);
    }

    private static void edgesOfT() {
        FaultHeaps x = new FaultHeaps();
        Due.tell(x, 0, 1, 2, 3, 4, 5, 6, 7, 8, 9, 10, 11, 12);
        Due.tell(x, 0, 21, 22, 23, 24, 25, 26, 27, 28, 29, 30, 31, 32);
        Due.tell(x, 0, 1, 2, 3, 4, 5, 6, 7, 8, 9, 10, 11, 12);
        due.heaps("T 6", x, 0, 1, 0);
        due.yes("mark(0)", x.mark(0));
        due.same("T 0", x.count(3), 0);
        due.same("resettle at T 0", x.resettle(), 3);
        due.yes("mark(40)", x.mark(40));
        due.same("T 40", x.count(3), 40);
        due.heaps("T 40", x, 0, 0, 0);
        due.no("mark(41)", x.mark(41));
        due.no("mark(-1)", x.mark(-1));
        due.no("mark(least int)", x.mark(Integer.MIN_VALUE));
        due.same("T stays", x.count(3), 40);
        due.heaps("the heaps stay", x, 0, 0, 0);
    }

    private static void resettled() {
        FaultHeaps x = Due.evenOnes(4);
        Due.lay(x, 0, 3);
        Due.lay(x, 1, 2);
        due.heaps("laid", x, 0, 1, 1, 0);
        due.same("resettle", x.resettle(), 4);
        due.heaps("all alone", x, 0, 1, 2, 3);
        due.same("parting is no change", x.count(6), 2);
        x.pair(1, 3, true);
        due.same("resettle with a must", x.resettle(), 3);
        due.heaps("1 and 3 again", x, 0, 1, 2, 1);
        due.same("the changes of resettle count", x.count(6), 4);
    }

    private static void costs() {
        FaultHeaps x = new FaultHeaps();
        Due.tell(x, 0, 1, 2, 3);
        Due.tell(x, 0, 1, 2, 4);
        Due.tell(x, 0, 7, 8, 9);
        due.same("cost of all", x.cost(0, -1), 0);
        x.pair(0, 1, false);
        due.same("apart below T", x.cost(0, 1), 3);
        due.same("the other way", x.cost(1, 0), 3);
        due.same("apart above T", x.cost(0, 2), 0);
        x.pair(0, 1, true);
        x.pair(1, 2, true);
        due.heaps("two musts", x, 0, 0, 0);
        due.same("together above T", x.cost(1, 2), 3);
        due.same("0 and 2, too", x.cost(0, 2), 3);
        x.pair(0, 2, false);
        due.heaps("2 goes alone", x, 0, 0, 2);
        due.same("1000 for a must, nothing for what is above T", x.cost(1, 2), 1000);
        due.same("cost of all with any a", x.cost(77, -1), 1000);
        x.pair(1, 2, false);
        x.mark(40);
        due.heaps("T does not outweigh a not", x, 0, 0, 2);
        due.same("apart below T", x.cost(2, 0), 31);
        due.same("the sum over all pairs", x.cost(0, -1), 62);
        brokenWishes();
        wrongCosts(x);
    }

    private static void brokenWishes() {
        FaultHeaps x = Due.evenOnes(3);
        x.mark(4);
        due.heaps("all together", x, 0, 0, 0);
        x.pair(0, 1, true);
        x.pair(1, 2, true);
        x.pair(0, 2, false);
        due.heaps("leaving would cost as much as it spares", x, 0, 0, 0);
        due.same("a not together", x.cost(0, 2), 1000);
        x.mark(2);
        due.heaps("leaving spares 1001 and costs 999", x, 0, 1, 1);
        due.same("a must apart above T", x.cost(0, 1), 1000);
        due.same("together above T", x.cost(2, 1), 1);
        due.same("the sum of them", x.cost(0, -1), 1001);
        FaultHeaps y = Due.evenOnes(4);
        y.mark(4);
        y.pair(0, 1, true);
        y.pair(0, 2, false);
        y.pair(0, 3, false);
        y.pair(1, 2, true);
        y.pair(1, 3, true);
        due.heaps("two nots outweigh a must", y, 0, 1, 1, 1);
        due.same("a must apart below T", y.cost(0, 1), 1001);
        due.same("the sum of them", y.cost(0, -1), 1003);
    }

    private static void wrongCosts(FaultHeaps x) {
        due.same("cost(0, 0)", x.cost(0, 0), -1);
        due.same("cost(0, 3)", x.cost(0, 3), -1);
        due.same("cost(3, 0)", x.cost(3, 0), -1);
        due.same("cost(-1, 0)", x.cost(-1, 0), -1);
        due.same("cost(0, -2)", x.cost(0, -2), -1);
    }

    private static void commonAsItIsThen() {
        FaultHeaps x = new FaultHeaps();
        Due.tell(x, 0, 1, 2, 3, 10);
        Due.tell(x, 0, 1, 2, 3, 11, 12, 13);
        Due.tell(x, 0, 1, 2, 3, 14, 15, 16);
        Due.tell(x, 0, 1, 2, 3, 17, 18, 19);
        due.same("7 ahead", x.distance(0, 1), 7);
        Due.tell(x, 0, 20);
        due.same("three common ones", x.count(5), 3);
        due.same("7 still", x.distance(0, 1), 7);
        due.same("3 now, for the common ones are left out", x.distance(0, 4), 3);
        due.heaps("settled with the common ones left out", x, 0, 1, 2, 3, 0);
        Due.tell(x, 0, 30, 31, 32, 33, 34, 35, 36);
        due.same("none is common", x.count(5), 0);
        due.same("9 with all of them", x.distance(0, 4), 9);
        due.heaps("settled without common ones", x, 0, 1, 2, 3, 4, 5);
    }

    private static void counts() {
        FaultHeaps x = new FaultHeaps();
        x.version(0);
        x.version(1);
        Due.tell(x, 2, 1, 2);
        Due.tell(x, 0, 1, 3);
        Due.tell(x, 0, 90, 91, 92, 93);
        x.frame(4);
        x.frame(4);
        x.fix(1, 1);
        x.mark(8);
        int[] all = {3, 2, 3, 8, 2, 0, 1, 1};
        for (int what = 0; what < all.length; what++) {
            due.same("count(" + what + ")", x.count(what), all[what]);
        }
        due.same("count(8)", x.count(8), -1);
        due.same("count(-1)", x.count(-1), -1);
        due.same("count(least int)", x.count(Integer.MIN_VALUE), -1);
    }
}
