/** The document's Terms 1 to 3: a test for each sentence of them that names an edge. */
public final class TermsEdgesTest {
    private static final Due due = new Due();

    public static void main(String[] args) {
        rowsOfOneToTwelve();
        framesFromUnknownTo500();
        partsOfOneTwoAndThree();
        partsThatStay();
        asLongAsAPartStandsTwice();
        foldsEndWhereTheRowEnds();
        thirtyVersions();
        eachMadeFromOneThatIsThere();
        fortyReportsAsTheyCome();
        commonFromFiveReportsOn();
        commonInFourOfFive();
        commonInFourOfFiveOfForty();
        unknownOnesAreNeverCommon();
        leastAndGreatestDistance();
        costsOfOneFrame();
        edgesOfT();
        oneAboveAndOneBelowT();
        thousandMore();
        onlyWhatLessensTheCost();
        whatLessensItMost();
        moveThatLessensItMost();
        reportWhoseMoveLessensItMost();
        aloneIfItIsNot();
        aloneOfForty();
        leastReportAheadOfItsHeap();
        heapWithTheLeastReportNow();
        movesAheadOfMeltings();
        meltingsByTheOneThenTheOther();
        commonAsItIsThen();
        marksOfOneToThree();
        unknownOnesAreInNoMark();
        leastNumbersFirstAhead();
        inEachOfItsReports();
        cameBackAtItsVersionOrBehind();
        due.end("TermsEdgesTest");
    }

    private static int[] frames(int... frames) {
        return frames;
    }

    private static FaultHeaps with(int t, int[]... rows) {
        FaultHeaps x = new FaultHeaps();
        x.mark(t);
        for (int[] row : rows) {
            Due.tell(x, 0, row);
        }
        return x;
    }

    /** Holds a ROW, as it is told, against what is left of it when it is FOLDED. */
    private static void folded(String when, int[] told, int... left) {
        FaultHeaps x = with(6, told);
        due.row(when, x, 0, left);
    }

    // ---- Terms 1

    /** "A ROW has 1 to 12 FRAMES" */
    private static void rowsOfOneToTwelve() {
        FaultHeaps x = new FaultHeaps();
        due.same("a row of 0", x.report(0), -1);
        due.same("a row of 1", Due.tell(x, 0, 7), 0);
        due.row("a row of 1", x, 0, 7);
        int[] twelve = frames(1, 2, 3, 4, 5, 6, 7, 8, 9, 10, 11, 12);
        due.same("a row of 12", Due.tell(x, 0, twelve), 1);
        due.row("a row of 12", x, 1, twelve);
        due.same("a row of 13 keeps 12", Due.tell(x, 0, 1, 2, 3, 4, 5, 6, 7, 8, 9, 10, 11, 12, 13), 2);
        due.row("a row of 13 keeps 12", x, 2, twelve);
    }

    /** "(0 an unknown one, 1 .. 500)" */
    private static void framesFromUnknownTo500() {
        FaultHeaps x = new FaultHeaps();
        due.same("frame(0)", x.frame(0), 1);
        due.same("frame(1)", x.frame(1), 2);
        due.same("frame(499)", x.frame(499), 3);
        due.same("frame(500)", x.frame(500), 4);
        due.same("frame(501)", x.frame(501), -1);
        due.same("frame(-1)", x.frame(-1), -1);
        x.report(0);
        due.row("all that are right", x, 0, 0, 1, 499, 500);
        FaultHeaps y = with(0, frames(500, 1), frames(1, 2), frames(2, 3));
        due.same("500 against 2", y.distance(0, 1), 4);
        due.sign("500 in a mark", y, 0, 500);
    }

    /** "some part of 1, 2 or 3 FRAMES stands twice, the second right behind the first: .. the first one goes once" */
    private static void partsOfOneTwoAndThree() {
        folded("1 at the beginning", frames(5, 5, 6), 5, 6);
        folded("1 at the end", frames(5, 6, 6), 5, 6);
        folded("2 at the beginning", frames(5, 6, 5, 6, 7), 5, 6, 7);
        folded("2 at the end", frames(7, 5, 6, 5, 6), 7, 5, 6);
        folded("3 at the beginning", frames(5, 6, 7, 5, 6, 7, 8), 5, 6, 7, 8);
        folded("3 at the end", frames(8, 5, 6, 7, 5, 6, 7), 8, 5, 6, 7);
        folded("1 of unknown ones", frames(0, 0), 0);
        folded("3 with an unknown one", frames(4, 0, 5, 4, 0, 5), 4, 0, 5);
        folded("3 at the end of 12", frames(1, 2, 3, 4, 5, 6, 7, 8, 9, 7, 8, 9), 1, 2, 3, 4, 5, 6, 7, 8, 9);
        folded("1 at the end of 12", frames(1, 2, 3, 4, 5, 6, 7, 8, 9, 10, 11, 11), 1, 2, 3, 4, 5, 6, 7, 8, 9, 10, 11);
    }

    /** "some part of 1, 2 or 3 FRAMES", "right behind": what is longer, parted or not the same stays. */
    private static void partsThatStay() {
        folded("4 twice", frames(1, 2, 3, 4, 1, 2, 3, 4), 1, 2, 3, 4, 1, 2, 3, 4);
        folded("5 twice", frames(1, 2, 3, 4, 5, 1, 2, 3, 4, 5), 1, 2, 3, 4, 5, 1, 2, 3, 4, 5);
        folded("6 twice", frames(1, 2, 3, 4, 5, 6, 1, 2, 3, 4, 5, 6), 1, 2, 3, 4, 5, 6, 1, 2, 3, 4, 5, 6);
        folded("1 with one between", frames(1, 2, 1), 1, 2, 1);
        folded("3 with one between", frames(1, 2, 3, 9, 1, 2, 3), 1, 2, 3, 9, 1, 2, 3);
        folded("3 but for the first", frames(1, 2, 3, 9, 2, 3), 1, 2, 3, 9, 2, 3);
        folded("3 but for the last", frames(1, 2, 3, 1, 2, 9), 1, 2, 3, 1, 2, 9);
        folded("3 turned round", frames(1, 2, 3, 2, 1), 1, 2, 3, 2, 1);
        folded("an unknown one is no other one", frames(1, 0, 2), 1, 0, 2);
    }

    /** "as long as some part .. stands twice" */
    private static void asLongAsAPartStandsTwice() {
        folded("12 times 1", frames(3, 3, 3, 3, 3, 3, 3, 3, 3, 3, 3, 3), 3);
        folded("6 times 2", frames(3, 4, 3, 4, 3, 4, 3, 4, 3, 4, 3, 4), 3, 4);
        folded("4 times 3", frames(3, 4, 5, 3, 4, 5, 3, 4, 5, 3, 4, 5), 3, 4, 5);
        folded("six parts of 1", frames(1, 1, 2, 2, 3, 3, 4, 4, 5, 5, 6, 6), 1, 2, 3, 4, 5, 6);
        folded("1, then 2 by it", frames(1, 1, 2, 1, 2, 2), 1, 2);
        folded("1, then 3 by it", frames(1, 2, 3, 3, 1, 1, 2, 3), 1, 2, 3);
        folded("2, then 3 by it", frames(1, 2, 1, 2, 3, 1, 2, 3), 1, 2, 3);
        folded("3, then 1 by it", frames(1, 2, 3, 1, 2, 3, 3), 1, 2, 3);
        folded("3, then 2 by it", frames(1, 2, 1, 3, 2, 1, 3, 2, 1, 3), 1, 2, 1, 3);
    }

    /** What an earlier, longer ROW held behind the end of this one is no part of it. */
    private static void foldsEndWhereTheRowEnds() {
        FaultHeaps x = new FaultHeaps();
        Due.tell(x, 0, 1, 2, 3, 1, 2, 4);
        due.same("the beginning of it", Due.tell(x, 0, 1, 2, 3, 1, 2), 1);
        due.row("the beginning of it", x, 1, 1, 2, 3, 1, 2);
        Due.tell(x, 0, 1, 2, 3, 1, 2, 3);
        due.same("what is left of one folded", Due.tell(x, 0, 1, 2), 3);
        due.row("what is left of one folded", x, 3, 1, 2);
        due.same("one of it", Due.tell(x, 0, 1), 4);
        due.row("one of it", x, 4, 1);
    }

    /** "VERSIONS, 30 at most: 0 is there" */
    private static void thirtyVersions() {
        FaultHeaps x = new FaultHeaps();
        due.same("0 is there", x.behind(0, 0), 1);
        due.same("1 is not", x.behind(1, 0), -1);
        for (int v = 1; v <= 29; v++) {
            due.same("version " + v, x.version(0), v);
        }
        due.same("30 of them", x.count(2), 30);
        due.same("no version 30", x.version(0), -1);
        due.same("nor from the last one", x.version(29), -1);
        due.same("30 still", x.count(2), 30);
        due.same("29 is there", x.behind(29, 29), 1);
        due.same("30 is not", x.behind(30, 0), -1);
        due.same("a report of 29", Due.tell(x, 29, 1), 0);
        x.frame(2);
        due.same("no report of 30", x.report(30), -1);
    }

    /** "each other one is made from one that is there; it is behind that, and what that is behind" */
    private static void eachMadeFromOneThatIsThere() {
        FaultHeaps x = new FaultHeaps();
        due.same("from itself", x.version(1), -1);
        for (int v = 1; v <= 28; v++) {
            x.version(v - 1);
        }
        due.same("29 from 14", x.version(14), 29);
        for (int of = 0; of <= 29; of++) {
            due.same("behind(29, " + of + ")", x.behind(29, of), of <= 14 || of == 29 ? 1 : 0);
            due.same("behind(28, " + of + ")", x.behind(28, of), of <= 28 ? 1 : 0);
            due.same("behind(0, " + of + ")", x.behind(0, of), of == 0 ? 1 : 0);
        }
    }

    /** "REPORTS, 40 at most, are numbered as they come" */
    private static void fortyReportsAsTheyCome() {
        FaultHeaps x = new FaultHeaps();
        x.mark(0);
        for (int r = 0; r < 40; r++) {
            due.same("report " + r, Due.tell(x, 0, 500 - r), r);
        }
        due.same("no report 40", Due.tell(x, 0, 3), -1);
        due.same("40 of them", x.count(0), 40);
        due.row("the first", x, 0, 500);
        due.row("the last", x, 39, 461);
        due.same("the last two", x.distance(38, 39), 3);
        due.same("the first and the last", x.distance(39, 0), 3);
        due.same("row(40, 0)", x.row(40, 0), -1);
    }

    /** "COMMON .. if there are 5 or more" */
    private static void commonFromFiveReportsOn() {
        FaultHeaps x = new FaultHeaps();
        for (int n = 1; n <= 5; n++) {
            Due.tell(x, 0, 9);
            due.same("9 in all of " + n, x.common(9), n == 5 ? 1 : 0);
            due.same("common ones of " + n, x.count(5), n == 5 ? 1 : 0);
        }
    }

    private static FaultHeaps having(int n, int all) {
        FaultHeaps x = new FaultHeaps();
        for (int r = 0; r < all; r++) {
            Due.tell(x, 0, r < n ? frames(9, 10 + r) : frames(10 + r));
        }
        return x;
    }

    /** "at least 4 of 5 of all REPORTS" */
    private static void commonInFourOfFive() {
        int[] fewest = {4, 5, 6, 7, 8, 8, 9, 10, 11, 12, 12};
        for (int all = 5; all <= 15; all++) {
            int n = fewest[all - 5];
            due.same("9 in " + n + " of " + all, having(n, all).common(9), 1);
            due.same("9 in " + (n - 1) + " of " + all, having(n - 1, all).common(9), 0);
        }
    }

    private static void commonInFourOfFiveOfForty() {
        FaultHeaps x = having(32, 40);
        due.same("9 in 32 of 40", x.common(9), 1);
        due.same("one common one", x.count(5), 1);
        due.same("9 is left out", x.distance(0, 39), 3);
        FaultHeaps y = having(31, 40);
        due.same("9 in 31 of 40", y.common(9), 0);
        due.same("no common one", y.count(5), 0);
        due.same("9 is not left out", y.distance(0, 39), 5);
    }

    /** "COMMON is a FRAME (not 0)" */
    private static void unknownOnesAreNeverCommon() {
        FaultHeaps x = new FaultHeaps();
        for (int r = 0; r < 5; r++) {
            Due.tell(x, 0, 0, 1, 500);
        }
        Due.tell(x, 0, 1, 500);
        due.same("0 in 5 of 6", x.common(0), 0);
        due.same("1 in all", x.common(1), 1);
        due.same("500 in all", x.common(500), 1);
        due.same("two common ones", x.count(5), 2);
        due.same("0 is not left out", x.distance(0, 5), 1);
    }

    private static void apart(String when, int cost, int[] one, int[] other) {
        FaultHeaps x = with(6, one, other);
        due.same(when, x.distance(0, 1), cost);
        due.same(when + ", the other way", x.distance(1, 0), cost);
    }

    /** The DISTANCES 0 and 36, and those of a ROW without any FRAME left. */
    private static void leastAndGreatestDistance() {
        apart("the same 12", 0, frames(1, 2, 3, 4, 5, 6, 7, 8, 9, 10, 11, 12), frames(1, 2, 3, 4, 5, 6, 7, 8, 9, 10, 11, 12));
        apart("12 others", 36, frames(1, 2, 3, 4, 5, 6, 7, 8, 9, 10, 11, 12),
            frames(489, 490, 491, 492, 493, 494, 495, 496, 497, 498, 499, 500));
        FaultHeaps x = with(0, frames(1), frames(1), frames(1), frames(1, 2, 3, 4, 5, 6, 7, 8, 9, 10, 11, 12), frames(0, 1, 0));
        due.same("1 is common", x.common(1), 1);
        due.same("nothing against nothing", x.distance(0, 2), 0);
        due.same("nothing against 11", x.distance(0, 3), 22);
        due.same("11 against nothing", x.distance(3, 1), 22);
        due.same("nothing against two unknown ones", x.distance(0, 4), 2);
    }

    /** "a FRAME put in or left out 2, an unknown one 1; a FRAME changed to another one 3, to or from an unknown one 2" */
    private static void costsOfOneFrame() {
        apart("one more", 2, frames(1), frames(1, 2));
        apart("one more ahead", 2, frames(1), frames(2, 1));
        apart("an unknown one more", 1, frames(1), frames(1, 0));
        apart("an unknown one more ahead", 1, frames(1), frames(0, 1));
        apart("another one", 3, frames(1), frames(2));
        apart("an unknown one for it", 2, frames(1), frames(0));
        apart("it for an unknown one", 2, frames(0), frames(1));
        apart("unknown for unknown", 0, frames(0), frames(0));
        apart("one put in, one left out, not three changed", 4, frames(1, 2, 3), frames(2, 3, 4));
        apart("an unknown one goes, one comes", 3, frames(0, 1), frames(1, 2));
    }

    // ---- Terms 2

    /** "T is a number (0 .. 40; 6 at first)" */
    private static void edgesOfT() {
        FaultHeaps x = new FaultHeaps();
        due.same("6 at first", x.count(3), 6);
        due.yes("mark(0)", x.mark(0));
        due.same("T 0", x.count(3), 0);
        due.no("mark(-1)", x.mark(-1));
        due.same("T 0 still", x.count(3), 0);
        due.yes("mark(40)", x.mark(40));
        due.same("T 40", x.count(3), 40);
        due.no("mark(41)", x.mark(41));
        due.same("T 40 still", x.count(3), 40);
        FaultHeaps y = with(0, frames(1), frames(1));
        due.heaps("at T 0 the same ones are alone", y, 0, 1);
        y.mark(1);
        due.heaps("at T 1 they are not", y, 0, 0);
        y.mark(0);
        due.heaps("at T 0 they stay", y, 0, 0);
    }

    /** "Two REPORTS together cost what their DISTANCE is above T, apart what it is below T" */
    private static void oneAboveAndOneBelowT() {
        int[][] rows = {{1, 2, 3}, {4, 3}, {5, 6, 3}, {1, 7, 8, 9}};
        int[] far = {0, 5, 6, 8};
        for (int r = 1; r < 4; r++) {
            for (int t = far[r] - 1; t <= far[r] + 1; t++) {
                FaultHeaps x = with(t, rows[0], rows[r]);
                String when = "at " + far[r] + " with T " + t;
                due.same(when, x.distance(0, 1), far[r]);
                due.heaps(when, x, 0, far[r] < t ? 0 : 1);
                due.same(when + ": as they are", x.cost(0, 1), 0);
                x.pair(0, 1, true);
                due.same(when + ": together", x.cost(0, 1), far[r] > t ? 1 : 0);
                x.pair(0, 1, false);
                due.same(when + ": apart", x.cost(1, 0), far[r] < t ? 1 : 0);
            }
        }
    }

    /** "1000 more apart if they MUST be together, together if they must NOT be" */
    private static void thousandMore() {
        FaultHeaps x = with(6, frames(1, 2, 3), frames(4, 5, 6), frames(7, 8, 9), frames(10, 11, 12));
        x.pair(0, 1, true);
        x.pair(1, 2, true);
        x.pair(0, 3, true);
        x.pair(3, 2, true);
        x.pair(1, 3, true);
        x.pair(0, 2, false);
        due.heaps("five musts, one not", x, 0, 0, 0, 0);
        due.same("not, together, above T", x.cost(0, 2), 1003);
        due.same("must, together, above T", x.cost(0, 1), 3);
        due.same("all", x.cost(0, -1), 1000 + 6 * 3);
        x.mark(12);
        due.same("not, together, below T", x.cost(2, 0), 1000);
        due.same("must, together, below T", x.cost(1, 0), 0);
        x.mark(6);
        x.pair(0, 3, false);
        due.heaps("0 has two nots, one must", x, 0, 1, 1, 1);
        due.same("must, apart, above T", x.cost(0, 1), 1000);
        due.same("not, apart, above T", x.cost(0, 2), 0);
        x.mark(12);
        due.heaps("0 has two nots, one must, below T", x, 0, 1, 1, 1);
        due.same("must, apart, below T", x.cost(0, 1), 1003);
        due.same("not, apart, below T", x.cost(0, 2), 3);
        due.same("all", x.cost(0, -1), 1003 + 2 * 3);
    }

    /** "as long as a change lessens the COST": one that leaves it as it is, is not done. */
    private static void onlyWhatLessensTheCost() {
        FaultHeaps x = Due.evenOnes(6);
        due.heaps("at T", x, 0, 1, 2, 3, 4, 5);
        due.same("no change", x.count(6), 0);
        Due.lay(x, 2, 4);
        due.heaps("laid", x, 0, 1, 2, 3, 2, 5);
        due.same("one change", x.count(6), 1);
        x.mark(3);
        due.heaps("the same T", x, 0, 1, 2, 3, 2, 5);
        due.same("one change still", x.count(6), 1);
        x.mark(40);
        due.heaps("as long as one lessens it", x, 0, 0, 0, 0, 0, 0);
        due.same("four changes more", x.count(6), 5);
    }

    /** "the one that lessens it most is done": here a MELTING by 8, ahead of a MOVE by 2. */
    private static void whatLessensItMost() {
        FaultHeaps x = with(0, frames(20, 21, 22, 23, 24), frames(2), frames(2), frames(2, 3), frames(2, 3), frames(4));
        x.mark(2);
        due.heaps("two twos", x, 0, 1, 1, 3, 3, 5);
        x.pair(5, 3, false);
        x.mark(4);
        due.heaps("the twos are melted, and 5 stays alone", x, 0, 1, 1, 1, 1, 5);
    }

    /** The same among MOVES of one REPORT, where no MELTING would do as well. */
    private static void moveThatLessensItMost() {
        FaultHeaps x = with(0, frames(1), frames(1), frames(1, 2), frames(1, 0));
        x.pair(1, 2, false);
        x.pair(1, 3, false);
        x.pair(2, 3, false);
        x.mark(3);
        due.heaps("0 and 1 are nearest", x, 0, 0, 2, 3);
        due.same("one change", x.count(6), 1);
        x.pair(0, 1, false);
        due.heaps("0 goes to 3", x, 0, 1, 2, 0);
        due.same("one change more, not two by way of 2", x.count(6), 2);
    }

    /** The same among MOVES of several REPORTS: 1 is less near to 2 than 0 is, so it is better for 1 to leave. */
    private static void reportWhoseMoveLessensItMost() {
        FaultHeaps x = with(3, frames(1, 0), frames(1), frames(0, 1, 0));
        due.heaps("all near", x, 0, 0, 0);
        due.same("two changes", x.count(6), 2);
        x.pair(0, 1, false);
        due.heaps("1 leaves", x, 0, 1, 0);
        due.same("one change more, not two by way of 0 and 2", x.count(6), 3);
    }

    /** "or alone (if it is not)" */
    private static void aloneIfItIsNot() {
        FaultHeaps x = with(2, frames(1), frames(2), frames(3));
        due.heaps("all alone", x, 0, 1, 2);
        due.same("going alone is no change then", x.count(6), 0);
        x.pair(1, 2, true);
        due.heaps("1 and 2", x, 0, 1, 1);
        x.free(1, 2);
        due.heaps("1 goes alone, as 0 is too far as well", x, 0, 1, 2);
        due.same("two changes", x.count(6), 2);
        FaultHeaps y = Due.evenOnes(2);
        Due.lay(y, 0, 1);
        y.pair(0, 1, false);
        due.heaps("alone from the only heap", y, 0, 1);
    }

    private static void aloneOfForty() {
        FaultHeaps x = new FaultHeaps();
        x.mark(2);
        for (int f = 1; f <= 40; f++) {
            Due.tell(x, 0, f);
        }
        due.same("40 heaps", x.count(1), 40);
        x.pair(39, 38, true);
        due.same("39 heaps", x.count(1), 39);
        due.same("39 is with 38", x.heap(39), 38);
        x.free(38, 39);
        due.same("40 heaps again", x.count(1), 40);
        due.same("39 is alone", x.heap(39), 39);
        due.same("38 is alone", x.heap(38), 38);
        x.mark(40);
        due.same("one heap", x.count(1), 1);
        due.same("39 changes in it, two ahead", x.count(6), 41);
        due.same("all are in it", Due.look(x, 39, 4), 40);
        due.same("its least one is 0", x.heap(39), 0);
    }

    /** "MOVES first, the least REPORT, then the HEAP .., alone last": the REPORT counts ahead of alone. */
    private static void leastReportAheadOfItsHeap() {
        FaultHeaps x = Due.evenOnes(3);
        Due.lay(x, 0, 1);
        x.pair(0, 2, false);
        x.pair(0, 1, false);
        due.heaps("0 goes alone, not 1 to 2", x, 0, 1, 2);
        FaultHeaps y = Due.evenOnes(3);
        Due.lay(y, 1, 2);
        y.pair(2, 1, false);
        due.heaps("1 goes to 0, not 2, and not alone", y, 0, 0, 2);
        FaultHeaps z = Due.evenOnes(4);
        Due.lay(z, 0, 1);
        Due.lay(z, 2, 3);
        z.pair(1, 0, false);
        due.heaps("0 goes to 2 and 3, not alone", z, 0, 1, 0, 0);
    }

    /** "then the HEAP with the least REPORT in it": as it is then, not as it was. */
    private static void heapWithTheLeastReportNow() {
        FaultHeaps x = Due.evenOnes(7);
        Due.lay(x, 1, 5);
        Due.lay(x, 2, 3);
        Due.lay(x, 4, 6);
        x.pair(0, 4, false);
        due.heaps("laid", x, 0, 1, 2, 2, 4, 1, 4);
        x.pair(1, 5, false);
        due.heaps("1 leaves 5", x, 0, 0, 2, 2, 4, 5, 4);
        x.pair(4, 6, false);
        due.heaps("4 goes to 2 and 3, not to 5", x, 0, 0, 2, 2, 2, 5, 6);
    }

    /** "MOVES first, .. then MELTINGS" */
    private static void movesAheadOfMeltings() {
        FaultHeaps x = Due.evenOnes(6);
        Due.lay(x, 0, 1);
        Due.lay(x, 4, 5);
        x.pair(0, 5, true);
        due.heaps("0 moves, and 1 stays", x, 0, 1, 2, 3, 0, 0);
        due.same("one change, two ahead", x.count(6), 3);
    }

    /** Twos of REPORTS that must be together; at T 4 each MELTING of two of them lessens the COST by 4. */
    private static FaultHeaps twos(int howMany, int[]... nots) {
        FaultHeaps x = Due.evenOnes(2 * howMany);
        for (int r = 0; r < 2 * howMany; r += 2) {
            x.pair(r, r + 1, true);
        }
        for (int[] not : nots) {
            x.pair(not[0], not[1], false);
        }
        x.mark(4);
        return x;
    }

    /** "then MELTINGS, by the least REPORT of the one, then of the other one" */
    private static void meltingsByTheOneThenTheOther() {
        FaultHeaps other = twos(3, frames(3, 5));
        due.heaps("0 and 2, not 0 and 4", other, 0, 0, 0, 0, 4, 4);
        FaultHeaps one = twos(3, frames(1, 3));
        due.heaps("0 and 4, not 2 and 4", one, 0, 0, 2, 2, 0, 0);
        FaultHeaps oneAhead = twos(4, frames(0, 2), frames(0, 4));
        due.heaps("0 and 6 ahead of 2 and 4", oneAhead, 0, 0, 2, 2, 2, 2, 0, 0);
        due.same("four musts, two meltings", oneAhead.count(6), 6);
    }

    /** "Behind a REPORT (alone at first), .. COMMON as it is then, all is SETTLED": those that were there ahead, too. */
    private static void commonAsItIsThen() {
        FaultHeaps x = with(6, frames(20), frames(1, 2, 3, 10), frames(1, 2, 3, 11, 12, 13), frames(1, 2, 3, 14, 15, 16));
        due.heaps("none is common", x, 0, 1, 2, 3);
        due.same("9 ahead", x.distance(0, 1), 9);
        Due.tell(x, 0, 1, 2, 3, 17, 18, 19);
        due.same("three common ones", x.count(5), 3);
        due.same("3 now", x.distance(0, 1), 3);
        due.heaps("0 and 1 are put together", x, 0, 0, 2, 3, 4);
        Due.tell(x, 0, 30, 31, 32, 33, 34, 35, 36);
        due.same("none is common again", x.count(5), 0);
        due.heaps("0 and 1 are parted", x, 0, 1, 2, 3, 4, 5);
        FaultHeaps y = with(6, frames(1, 2, 3, 10), frames(20), frames(1, 2, 3, 11, 12, 13), frames(1, 2, 3, 14, 15, 16));
        due.heaps("the other way round", y, 0, 1, 2, 3);
        Due.tell(y, 0, 1, 2, 3, 17, 18, 19);
        due.same("3 as well", y.distance(0, 1), 3);
        due.heaps("put together as well", y, 0, 0, 2, 3, 4);
    }

    // ---- Terms 3

    /** "the fewest FRAMES (..; 3 at most)" */
    private static void marksOfOneToThree() {
        due.sign("one", with(0, frames(1, 2, 3), frames(1, 2)), 0, 3);
        due.sign("two", with(0, frames(1, 2, 3), frames(1, 2), frames(3)), 0, 1, 3);
        due.sign("three", with(0, frames(1, 2, 3), frames(1, 2), frames(1, 3), frames(2, 3)), 0, 1, 2, 3);
        FaultHeaps x = with(0, frames(1, 2, 3, 4), frames(1, 2, 3), frames(1, 2, 4), frames(1, 3, 4), frames(2, 3, 4));
        due.same("four would be a mark", x.sign(0), -1);
        due.latest("and none was told", x);
        FaultHeaps y = with(0, frames(1, 2, 500), frames(1, 2), frames(1, 500), frames(2, 500));
        due.sign("500 as the third", y, 0, 1, 2, 500);
    }

    /** "FRAMES (not 0; ..)" */
    private static void unknownOnesAreInNoMark() {
        due.same("0 alone", with(0, frames(0), frames(1)).sign(0), -1);
        due.same("0 beside 1", with(0, frames(0, 1), frames(1)).sign(0), -1);
        due.sign("the least beside 0", with(0, frames(0, 8, 7), frames(1)), 0, 7);
    }

    /** "of as few those whose numbers are least, the first ahead" */
    private static void leastNumbersFirstAhead() {
        due.sign("of one, whatever the row's order", with(0, frames(9, 4, 7), frames(5)), 0, 4);
        due.sign("of two: 1 4, though 2 3 would do", with(0, frames(4, 3, 2, 1), frames(1, 2), frames(1, 3), frames(2, 4), frames(3, 4)), 0, 1, 4);
        due.sign("the second behind the first", with(0, frames(4, 3, 2, 1), frames(1, 2), frames(3, 4)), 0, 1, 3);
        due.sign("of three: 1 4 5, though 2 3 4 would do",
            with(0, frames(1, 2, 3, 4, 5), frames(1, 2, 3, 5), frames(1, 2, 4), frames(1, 3, 4), frames(4, 5)), 0, 1, 4, 5);
        due.sign("the third behind the second",
            with(0, frames(1, 2, 3, 4), frames(1, 2, 3), frames(1, 4), frames(2, 4), frames(3, 4)), 0, 1, 2, 4);
    }

    /** "that stand all in the FOLDED ROW of each of its REPORTS, and not all in that of any other REPORT" */
    private static void inEachOfItsReports() {
        FaultHeaps x = with(6, frames(1, 5, 6), frames(2, 5, 6), frames(5, 30, 31, 32), frames(6, 40, 41, 42));
        due.heaps("a two", x, 0, 0, 2, 3);
        due.sign("not 1 or 2, and 5 and 6 only both", x, 0, 5, 6);
        due.sign("asked by the other one", x, 1, 5, 6);
        Due.tell(x, 0, 6, 50, 51, 52, 53, 5);
        due.same("both in another one now", x.sign(0), -1);
        FaultHeaps y = with(6, frames(1, 2, 3, 4, 5, 6, 7, 8, 9, 10, 11, 500), frames(12, 13, 14, 15, 16, 17, 18, 19, 20, 21, 22, 500),
            frames(1, 12));
        y.pair(0, 1, true);
        due.heaps("two that must be together", y, 0, 0, 2);
        due.sign("22 others in one of them only", y, 0, 500);
    }

    /** "CAME BACK if its VERSION is that one or behind it", "(itself, too)" */
    private static void cameBackAtItsVersionOrBehind() {
        FaultHeaps x = new FaultHeaps();
        x.version(0);
        x.version(1);
        x.version(0);
        int[] dueAtOne = {0, 1, 1, 0, 0};
        for (int v = 0; v <= 3; v++) {
            Due.tell(x, v, 1, 2, 3);
        }
        Due.tell(x, 2, 80, 81, 82, 83, 84);
        due.heaps("two heaps", x, 0, 0, 0, 0, 4);
        x.fix(0, 1);
        for (int r = 0; r <= 4; r++) {
            due.same("fixed at 1: look(" + r + ", 3)", Due.look(x, r, 3), dueAtOne[r]);
        }
        due.same("two came back", x.count(7), 2);
        x.fix(4, 2);
        due.same("the fixed one itself", Due.look(x, 4, 3), 1);
        x.fix(4, 3);
        due.same("fixed on another branch", Due.look(x, 4, 3), 0);
        x.fix(0, 0);
        due.same("fixed at 0: all of the heap, not the other one", x.count(7), 4);
    }
}
