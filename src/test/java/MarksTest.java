/** Promises 14 and 15: sign and signed. */
public final class MarksTest {
    private static final Due due = new Due();

    public static void main(String[] args) {
        noOtherHeap();
        fewestThenLeast();
        threeFrames();
        noMark();
        allOfAHeap();
        unknownOnesAndCommonOnes();
        theLatestStays();
        wrongOnes();
        due.end("MarksTest");
    }

    /** An object at T 0: REPORTS with other ROWS are never together. */
    private static FaultHeaps allApart(int[]... rows) {
        FaultHeaps x = new FaultHeaps();
        x.mark(0);
        for (int[] row : rows) {
            Due.tell(x, 0, row);
        }
        return x;
    }

    private static void noOtherHeap() {
        FaultHeaps x = new FaultHeaps();
        Due.tell(x, 0, 5, 6);
        due.sign("one report", x, 0);
        Due.tell(x, 0, 5, 7);
        due.same("one heap", x.count(1), 1);
        due.sign("one heap of two", x, 1);
    }

    private static void fewestThenLeast() {
        FaultHeaps x = allApart(new int[] {9, 4, 8, 3}, new int[] {3, 1}, new int[] {1, 2, 50});
        due.sign("the least of 4, 8, 9", x, 0, 4);
        due.sign("no frame but two", x, 1, 1, 3);
        due.sign("one is fewer than two with less numbers", x, 2, 2);
        FaultHeaps y = allApart(new int[] {4, 3, 2, 1}, new int[] {1, 2}, new int[] {3, 4});
        due.sign("1 3, not 1 4 or 2 3", y, 0, 1, 3);
        FaultHeaps z = allApart(new int[] {4, 3, 2, 1}, new int[] {1, 2, 3}, new int[] {4});
        due.sign("the first one counts ahead: 1 4, not 2 4 or 3 4", z, 0, 1, 4);
    }

    private static void threeFrames() {
        FaultHeaps x = allApart(new int[] {3, 2, 1}, new int[] {1, 2, 7}, new int[] {1, 3, 8}, new int[] {2, 3, 9});
        due.sign("no two of three", x, 0, 1, 2, 3);
        FaultHeaps y = allApart(new int[] {4, 3, 2, 1}, new int[] {1, 2, 3}, new int[] {1, 4}, new int[] {2, 4}, new int[] {3, 4});
        due.sign("the least three", y, 0, 1, 2, 4);
    }

    private static void noMark() {
        FaultHeaps x = allApart(new int[] {1, 2, 3, 4}, new int[] {1, 2, 3}, new int[] {1, 2, 4}, new int[] {1, 3, 4},
            new int[] {2, 3, 4});
        due.same("four would be needed", x.sign(0), -1);
        due.same("all of it stands in another one", x.sign(1), -1);
        FaultHeaps y = allApart(new int[] {1, 2}, new int[] {1, 2});
        due.same("two heaps", y.count(1), 2);
        due.same("the same row in another heap", y.sign(0), -1);
        // The order and the number of the FRAMES in the ROW do not count.
        FaultHeaps z = allApart(new int[] {1, 2, 1}, new int[] {2, 1});
        due.same("1 twice is 1", z.sign(0), -1);
    }

    private static void allOfAHeap() {
        FaultHeaps x = new FaultHeaps();
        Due.tell(x, 0, 1, 2, 8);
        Due.tell(x, 0, 1, 2, 9);
        Due.tell(x, 0, 1, 20, 21, 22);
        due.heaps("two heaps", x, 0, 0, 2);
        due.sign("in each of its reports, and in no other", x, 1, 2);
        x.pair(0, 1, false);
        due.sign("1 2 stands in the other one now", x, 1, 9);
        x.pair(0, 2, true);
        x.pair(0, 1, true);
        x.pair(1, 2, true);
        due.sign("no other heap any more", x, 1);
    }

    private static void unknownOnesAndCommonOnes() {
        FaultHeaps x = allApart(new int[] {0}, new int[] {1});
        due.same("an unknown one is no mark", x.sign(0), -1);
        due.sign("1", x, 1, 1);
        FaultHeaps y = allApart(new int[] {1, 2}, new int[] {1, 3}, new int[] {1, 2, 3}, new int[] {2, 3, 4}, new int[] {1, 4});
        due.same("1 is common", y.common(1), 1);
        due.sign("a common one may be in a mark", y, 0 + 4, 1, 4);
    }

    private static void theLatestStays() {
        FaultHeaps x = allApart(new int[] {1, 2}, new int[] {2, 3}, new int[] {1, 3});
        due.latest("none yet", x);
        due.sign("1 2", x, 0, 1, 2);
        due.same("no such report", x.sign(3), -1);
        due.latest("no such report: the latest stays", x, 1, 2);
        Due.tell(x, 0, 1, 2, 3);
        due.latest("a report more: the latest stays", x, 1, 2);
        due.same("no mark", x.sign(0), -1);
        due.latest("no mark: the latest stays", x, 1, 2);
        x.mark(40);
        due.same("all in one heap", x.count(1), 1);
        due.latest("other heaps: the latest stays", x, 1, 2);
        due.sign("a mark of no frames is the latest then", x, 0);
    }

    private static void wrongOnes() {
        FaultHeaps x = allApart(new int[] {1, 2}, new int[] {2, 3}, new int[] {1, 3});
        due.same("sign(-1)", x.sign(-1), -1);
        due.same("sign(3)", x.sign(3), -1);
        due.same("sign(40)", x.sign(40), -1);
        x.sign(0);
        due.same("signed(-1)", x.signed(-1), -1);
        due.same("signed(2)", x.signed(2), -1);
        due.same("signed(3)", x.signed(3), -1);
        due.same("signed(most int)", x.signed(Integer.MAX_VALUE), -1);
    }
}
