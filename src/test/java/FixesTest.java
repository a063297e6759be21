/** Promises 16, 17 and 19: fix, look, and those that came back. */
public final class FixesTest {
    private static final Due due = new Due();

    public static void main(String[] args) {
        behindAFix();
        inPlaceOfOneAhead();
        severalFixesInAHeap();
        asTheHeapsAreNow();
        looks();
        wrongOnes();
        due.end("FixesTest");
    }

    /** Versions 0 - 1 - 2 and 0 - 3, a REPORT of each, all in one HEAP. */
    private static FaultHeaps oneHeapOverBranches() {
        FaultHeaps x = new FaultHeaps();
        x.version(0);
        x.version(1);
        x.version(0);
        for (int v = 0; v < 4; v++) {
            Due.tell(x, v, 1, 2, 3 + v);
        }
        return x;
    }

    private static void back(String when, FaultHeaps x, int... all) {
        int sum = 0;
        for (int r = 0; r < all.length; r++) {
            due.same(when + ": look(" + r + ", 3)", Due.look(x, r, 3), all[r]);
            sum += all[r];
        }
        due.same(when + ": count(7)", x.count(7), sum);
    }

    private static void behindAFix() {
        FaultHeaps x = oneHeapOverBranches();
        back("no fix", x, 0, 0, 0, 0);
        due.yes("fix(3, 1)", x.fix(3, 1));
        back("fixed at 1", x, 0, 1, 1, 0);
        due.same("look(3, 2)", Due.look(x, 3, 2), 1);
        due.same("look(0, 2)", Due.look(x, 0, 2), -1);
    }

    private static void inPlaceOfOneAhead() {
        FaultHeaps x = oneHeapOverBranches();
        x.fix(0, 0);
        back("fixed at 0", x, 1, 1, 1, 1);
        due.yes("fix(0, 2)", x.fix(0, 2));
        due.same("look(0, 2)", Due.look(x, 0, 2), 2);
        back("fixed at 2 in its place", x, 0, 0, 1, 0);
        due.no("fix(0, 4)", x.fix(0, 4));
        back("a wrong one changes nothing", x, 0, 0, 1, 0);
    }

    private static void severalFixesInAHeap() {
        FaultHeaps x = oneHeapOverBranches();
        x.fix(0, 2);
        x.fix(1, 3);
        back("fixed at 2 and 3", x, 0, 0, 1, 1);
    }

    private static void asTheHeapsAreNow() {
        FaultHeaps x = new FaultHeaps();
        x.version(0);
        Due.tell(x, 0, 1, 2);
        Due.tell(x, 1, 1, 3);
        Due.tell(x, 1, 70, 71, 72, 73);
        x.fix(0, 1);
        back("1 is in the heap of 0", x, 0, 1, 0);
        x.pair(0, 1, false);
        back("1 is not any more", x, 0, 0, 0);
        due.same("a later report", Due.tell(x, 1, 1, 2), 3);
        due.same("it is with 0", x.heap(3), 0);
        back("it came back", x, 0, 0, 0, 1);
        due.same("it is not fixed itself", Due.look(x, 3, 2), -1);
        x.pair(1, 3, false);
        x.pair(0, 2, true);
        back("2 is with 0, too", x, 0, 0, 1, 1);
    }

    private static void looks() {
        FaultHeaps x = oneHeapOverBranches();
        Due.tell(x, 2, 50, 50, 51, 52, 53, 54);
        int[][] all = {{0, 3, -1, 0, 4}, {1, 3, -1, 0, 4}, {2, 3, -1, 0, 4}, {3, 3, -1, 0, 4}, {2, 5, -1, 0, 1}};
        for (int r = 0; r < all.length; r++) {
            for (int what = 0; what < 5; what++) {
                due.same("look(" + r + ", " + what + ")", Due.look(x, r, what), all[r][what]);
            }
        }
    }

    private static void wrongOnes() {
        FaultHeaps x = oneHeapOverBranches();
        due.no("fix(4, 0)", x.fix(4, 0));
        due.no("fix(-1, 0)", x.fix(-1, 0));
        due.no("fix(40, 0)", x.fix(40, 0));
        due.no("fix(0, -1)", x.fix(0, -1));
        due.no("fix(0, 30)", x.fix(0, 30));
        due.same("nothing is fixed", Due.look(x, 0, 2), -1);
        int[][] wrong = {{4, 0}, {-1, 0}, {40, 4}, {0, 5}, {0, -1}, {4, 5}, {Integer.MAX_VALUE, 0}, {0, Integer.MIN_VALUE}};
        for (int[] ask : wrong) {
            due.same("look(" + ask[0] + ", " + ask[1] + ")", Due.look(x, ask[0], ask[1]), Due.THROWN);
        }
        due.same("look(0, 0) of a new object", Due.look(new FaultHeaps(), 0, 0), Due.THROWN);
    }
}
