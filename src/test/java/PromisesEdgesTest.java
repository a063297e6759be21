/** Promises 1 to 19: a test for each sentence of them that names an edge or a refused call. */
public final class PromisesEdgesTest {
    private static final int NONE = FaultHeaps.NONE;
    private static final Due due = new Due();

    public static void main(String[] args) {
        newObject();
        newObjectBesideAnother();
        frameAnotherOne();
        frameTwelveAreThere();
        versionNoSuchOne();
        versionThirtyAreThere();
        reportNoneIsToldThen();
        reportNoFrames();
        reportNoSuchVersion();
        reportFortyAreThere();
        pairVoidsWhatWasTold();
        pairNoSuchTwo();
        freeNothingAnyMore();
        freeNothingWas();
        markAnotherNumber();
        resettleHowManyHeaps();
        resettleAllAlone();
        distanceNoneSuch();
        heapLeastReport();
        costOfAllOrOfAPair();
        costNoSuchTwo();
        rowNoneSuch();
        commonOneOrZero();
        signNoOtherHeap();
        signNone();
        signedNone();
        fixInPlaceOfOneAhead();
        fixNoneSuch();
        lookWhereItIsFixed();
        lookNoneSuch();
        behindNoneSuch();
        countAnotherWhat();
        due.end("PromisesEdgesTest");
    }

    private static int[] frames(int... frames) {
        return frames;
    }

    private static FaultHeaps with(int t, int[]... rows) {
        FaultHeaps x = new FaultHeaps();
        x.mark(t);
        for (int[] row : rows) {
            Due.tell(x, 0, row);
        }
        return x;
    }

    /** Promise 1: "No REPORT, one VERSION." */
    private static void newObject() {
        FaultHeaps x = new FaultHeaps();
        int[] counts = {0, 0, 1, 6, 0, 0, 0, 0};
        for (int what = 0; what < counts.length; what++) {
            due.same("new: count(" + what + ")", x.count(what), counts[what]);
        }
        due.same("new: heap(0)", x.heap(0), NONE);
        due.same("new: row(0, 0)", x.row(0, 0), NONE);
        due.same("new: distance(0, 0)", x.distance(0, 0), NONE);
        due.same("new: look(0, 0)", Due.look(x, 0, 0), Due.THROWN);
        due.same("new: cost of all", x.cost(0, NONE), 0);
        due.same("new: behind(0, 0)", x.behind(0, 0), 1);
        due.same("new: behind(1, 0)", x.behind(1, 0), NONE);
        due.same("new: behind(0, 1)", x.behind(0, 1), NONE);
        due.same("new: the first version made", x.version(0), 1);
        due.same("new: the first report", Due.tell(x, 0, 1), 0);
    }

    private static void newObjectBesideAnother() {
        FaultHeaps x = with(9, frames(1), frames(2, 3, 4, 5, 6));
        x.version(0);
        x.sign(0);
        x.frame(8);
        String ahead = Seen.of(x);
        FaultHeaps y = new FaultHeaps();
        due.same("the other one has no report", y.count(0), 0);
        due.same("one version", y.count(2), 1);
        due.same("T 6", y.count(3), 6);
        due.same("no frame told", y.count(4), 0);
        due.same("no mark told", y.signed(0), NONE);
        Due.tell(y, 0, 1);
        due.unchanged("the first one", x, ahead);
    }

    /** Promise 2: "NONE: another FRAME" */
    private static void frameAnotherOne() {
        FaultHeaps x = new FaultHeaps();
        due.same("frame(500)", x.frame(500), 1);
        for (int f : frames(-1, 501, 512, Integer.MIN_VALUE, Integer.MAX_VALUE)) {
            due.same("frame(" + f + ")", x.frame(f), NONE);
            due.same("one is told behind it", x.count(4), 1);
        }
        due.same("frame(0)", x.frame(0), 2);
        due.same("frame(1)", x.frame(1), 3);
        x.report(0);
        due.row("the wrong ones left no gap", x, 0, 500, 0, 1);
    }

    /** Promise 2: "NONE: .. 12 are there" */
    private static void frameTwelveAreThere() {
        FaultHeaps x = new FaultHeaps();
        for (int n = 1; n <= 12; n++) {
            due.same("frame " + n + " of those that fold", x.frame(4), n);
        }
        due.same("frame 13, though it would fold", x.frame(4), NONE);
        due.same("another frame 13", x.frame(5), NONE);
        due.same("a wrong frame 13", x.frame(501), NONE);
        due.same("12 are told", x.count(4), 12);
        due.same("a report of them", x.report(0), 0);
        due.row("folded", x, 0, 4);
        due.same("there is room again", x.frame(5), 1);
    }

    /** Promise 3: "NONE: no such one" */
    private static void versionNoSuchOne() {
        FaultHeaps x = new FaultHeaps();
        for (int from : frames(1, -1, 32, Integer.MIN_VALUE, Integer.MAX_VALUE)) {
            due.same("version(" + from + ")", x.version(from), NONE);
        }
        due.same("one version", x.count(2), 1);
        due.same("version(0)", x.version(0), 1);
        due.same("version(2)", x.version(2), NONE);
        due.same("version(1)", x.version(1), 2);
        due.same("2 is behind 1", x.behind(2, 1), 1);
    }

    /** Promise 3: "NONE: .. 30 are there" */
    private static void versionThirtyAreThere() {
        FaultHeaps x = new FaultHeaps();
        for (int v = 1; v <= 29; v++) {
            due.same("version " + v, x.version((v - 1) / 2), v);
        }
        for (int from : frames(0, 28, 29, 30, -1)) {
            due.same("version(" + from + ") at 30", x.version(from), NONE);
        }
        due.same("30 are there", x.count(2), 30);
        due.same("29 is behind 14", x.behind(29, 14), 1);
        due.same("29 is behind 6", x.behind(29, 6), 1);
        due.same("29 is not behind 13", x.behind(29, 13), 0);
    }

    /** Promise 4: "none is told then" */
    private static void reportNoneIsToldThen() {
        FaultHeaps x = new FaultHeaps();
        x.frame(1);
        x.frame(2);
        due.same("a report", x.report(0), 0);
        due.same("none is told", x.count(4), 0);
        due.same("so no report more", x.report(0), NONE);
        due.same("one frame", x.frame(3), 1);
        due.same("a report of it", x.report(0), 1);
        due.row("it begins anew", x, 1, 3);
        due.row("the first stays", x, 0, 1, 2);
    }

    /** Promise 4: "NONE: no FRAMES" */
    private static void reportNoFrames() {
        FaultHeaps x = new FaultHeaps();
        due.same("no frames", x.report(0), NONE);
        x.frame(501);
        due.same("only a wrong one", x.report(0), NONE);
        due.same("no report", x.count(0), 0);
        due.same("no heap", x.count(1), 0);
        due.same("an unknown one is a frame", Due.tell(x, 0, 0), 0);
    }

    /** Promise 4: "NONE: .. no such VERSION": the ROW stays told. */
    private static void reportNoSuchVersion() {
        FaultHeaps x = new FaultHeaps();
        x.version(0);
        x.frame(6);
        x.frame(6);
        for (int v : frames(-1, 2, 32, Integer.MIN_VALUE, Integer.MAX_VALUE)) {
            due.same("report(" + v + ")", x.report(v), NONE);
            due.same("two frames told still, not folded", x.count(4), 2);
        }
        due.same("no report", x.count(0), 0);
        due.same("one frame more", x.frame(7), 3);
        due.same("report(1)", x.report(1), 0);
        due.row("the row told", x, 0, 6, 7);
        due.same("its version", Due.look(x, 0, 0), 1);
    }

    /** Promise 4: "NONE: .. 40 are there": the ROW stays told, the HEAPS as they are. */
    private static void reportFortyAreThere() {
        FaultHeaps x = new FaultHeaps();
        for (int r = 0; r < 40; r++) {
            due.same("report " + r, Due.tell(x, 0, 1 + r % 10), r);
        }
        x.sign(39);
        x.frame(1);
        String ahead = Seen.of(x);
        due.same("report 40", x.report(0), NONE);
        due.same("report 40 again", x.report(0), NONE);
        due.unchanged("at 40", x, ahead);
        due.same("heap(40)", x.heap(40), NONE);
        due.row("the last one", x, 39, 10);
    }

    /** Promise 5: "what was told of them ahead is void: true" */
    private static void pairVoidsWhatWasTold() {
        FaultHeaps x = Due.evenOnes(2);
        due.yes("must", x.pair(0, 1, true));
        due.heaps("must", x, 0, 0);
        due.yes("not", x.pair(0, 1, false));
        due.heaps("not", x, 0, 1);
        due.same("the must is void", x.cost(0, 1), 0);
        due.yes("must, the other way round", x.pair(1, 0, true));
        due.heaps("must", x, 0, 0);
        due.same("the not is void", x.cost(0, 1), 0);
        due.yes("must twice", x.pair(0, 1, true));
        due.yes("free once", x.free(0, 1));
        due.no("nothing is left of all that", x.free(0, 1));
        x.mark(2);
        due.heaps("not even of the first must", x, 0, 1);
        x.mark(4);
        due.heaps("nor of the not", x, 0, 0);
    }

    /** Promise 5: "false: no such two." */
    private static void pairNoSuchTwo() {
        FaultHeaps x = Due.evenOnes(3);
        String ahead = Seen.of(x);
        int[][] wrong = {{0, 0}, {2, 2}, {0, 3}, {3, 0}, {0, -1}, {-1, 0}, {-1, -1}, {3, 4}, {0, 64}, {64, 1},
            {Integer.MIN_VALUE, 0}, {0, Integer.MIN_VALUE}, {Integer.MAX_VALUE, 0}, {0, Integer.MAX_VALUE}};
        for (int[] two : wrong) {
            due.no("must of " + two[0] + ", " + two[1], x.pair(two[0], two[1], true));
            due.no("not of " + two[0] + ", " + two[1], x.pair(two[0], two[1], false));
            due.no("nothing is told of " + two[0] + ", " + two[1], x.free(two[0], two[1]));
        }
        due.unchanged("wrong pairs", x, ahead);
        Due.tell(x, 0, 50);
        due.no("a report that came later has nothing told", x.free(0, 3));
        due.yes("the last two", x.pair(3, 2, true));
        due.heaps("the last two", x, 0, 1, 2, 2);
    }

    /** Promise 6: "Nothing is told of two REPORTS any more: true" */
    private static void freeNothingAnyMore() {
        FaultHeaps x = with(2, frames(1), frames(2), frames(3));
        x.pair(0, 1, true);
        x.pair(1, 2, true);
        x.pair(0, 2, true);
        due.heaps("three musts", x, 0, 0, 0);
        due.yes("free, the other way round", x.free(2, 0));
        due.heaps("two musts hold them still", x, 0, 0, 0);
        due.yes("free(1, 2)", x.free(1, 2));
        due.heaps("one must holds two of them", x, 0, 0, 2);
        due.yes("free(0, 1)", x.free(0, 1));
        due.heaps("none holds them", x, 0, 1, 2);
        due.same("all is settled", x.cost(0, NONE), 0);
        FaultHeaps y = with(4, frames(1), frames(2));
        y.pair(0, 1, false);
        due.same("not: apart below T", y.cost(0, 1), 1);
        due.yes("free of a not", y.free(0, 1));
        due.heaps("together behind it", y, 0, 0);
    }

    /** Promise 6: "false: nothing was." */
    private static void freeNothingWas() {
        FaultHeaps x = Due.evenOnes(3);
        due.no("nothing was", x.free(0, 1));
        x.pair(0, 1, true);
        String ahead = Seen.of(x);
        due.no("of 0 and 2", x.free(0, 2));
        due.no("of 1 and 2", x.free(2, 1));
        due.no("of 0 and itself", x.free(0, 0));
        due.no("of 1 and itself", x.free(1, 1));
        due.no("of no report", x.free(0, 3));
        due.no("of -1", x.free(-1, 0));
        due.unchanged("refused", x, ahead);
        due.yes("of 0 and 1", x.free(0, 1));
        due.no("of 0 and 1 again", x.free(0, 1));
        due.no("the other way round", x.free(1, 0));
    }

    /** Promise 7: "T becomes t: true; false: another number." */
    private static void markAnotherNumber() {
        FaultHeaps x = with(6, frames(1, 2, 3), frames(1, 2, 4));
        due.heaps("at T 6", x, 0, 0);
        for (int t : frames(-1, 41, 64, Integer.MIN_VALUE, Integer.MAX_VALUE)) {
            due.no("mark(" + t + ")", x.mark(t));
            due.same("T stays", x.count(3), 6);
            due.heaps("the heaps stay", x, 0, 0);
        }
        for (int t : frames(0, 1, 39, 40, 40)) {
            due.yes("mark(" + t + ")", x.mark(t));
            due.same("T is " + t, x.count(3), t);
        }
        due.heaps("at T 40", x, 0, 0);
        FaultHeaps y = new FaultHeaps();
        due.yes("without a report", y.mark(0));
        due.same("T 0", y.count(3), 0);
    }

    /** Promise 8: "how many HEAPS": none, one, forty. */
    private static void resettleHowManyHeaps() {
        FaultHeaps x = new FaultHeaps();
        due.same("no report", x.resettle(), 0);
        due.same("no change", x.count(6), 0);
        x.mark(0);
        for (int r = 0; r < 40; r++) {
            Due.tell(x, 0, 7);
            if (r == 0) {
                due.same("one report", x.resettle(), 1);
            }
        }
        due.same("40 at T 0", x.resettle(), 40);
        due.same("no change at T 0", x.count(6), 0);
        x.mark(1);
        due.same("39 changes at T 1", x.count(6), 39);
        due.same("one heap at T 1", x.resettle(), 1);
        due.same("39 changes again", x.count(6), 78);
    }

    /** Promise 8: "All REPORTS alone, then SETTLED": what was laid ahead does not stay. */
    private static void resettleAllAlone() {
        FaultHeaps x = Due.evenOnes(4);
        Due.lay(x, 0, 2);
        Due.lay(x, 1, 2);
        due.heaps("laid", x, 0, 0, 0, 3);
        x.pair(0, 3, true);
        due.heaps("a must takes 0 out", x, 0, 1, 1, 0);
        due.same("resettle", x.resettle(), 3);
        due.heaps("only the must holds", x, 0, 1, 2, 0);
        due.same("three changes ahead, one in it", x.count(6), 4);
        due.yes("what was told is told still", x.free(0, 3));
        due.same("resettle again", x.resettle(), 4);
        due.heaps("all alone", x, 0, 1, 2, 3);
    }

    /** Promise 9: "NONE: none such." */
    private static void distanceNoneSuch() {
        FaultHeaps x = Due.evenOnes(2);
        due.same("of two", x.distance(1, 0), 3);
        due.same("of one and itself", x.distance(1, 1), 0);
        for (int r : frames(-1, 2, 64, Integer.MIN_VALUE, Integer.MAX_VALUE)) {
            due.same("distance(0, " + r + ")", x.distance(0, r), NONE);
            due.same("distance(" + r + ", 0)", x.distance(r, 0), NONE);
            due.same("distance(" + r + ", " + r + ")", x.distance(r, r), NONE);
        }
    }

    /** Promise 10: "the least REPORT in it; NONE." */
    private static void heapLeastReport() {
        FaultHeaps x = with(2, frames(1), frames(2), frames(3));
        x.pair(1, 2, true);
        x.pair(0, 2, true);
        due.heaps("0 is in it", x, 0, 0, 0);
        x.free(0, 2);
        due.heaps("0 is not any more", x, 0, 1, 1);
        for (int r : frames(-1, 3, 40, 64, Integer.MIN_VALUE, Integer.MAX_VALUE)) {
            due.same("heap(" + r + ")", x.heap(r), NONE);
        }
        Due.tell(x, 0, 4);
        due.same("heap(3) now", x.heap(3), 3);
    }

    /** Promise 11: "The COST of all, or (b not NONE) of the pair a, b as it is" */
    private static void costOfAllOrOfAPair() {
        FaultHeaps x = new FaultHeaps();
        due.same("of no report", x.cost(0, NONE), 0);
        Due.tell(x, 0, 1);
        due.same("of one report", x.cost(0, NONE), 0);
        x.mark(0);
        Due.tell(x, 0, 2);
        Due.tell(x, 0, 3);
        x.pair(0, 1, true);
        x.pair(1, 2, true);
        for (int a : frames(0, 1, 2, 3, -1, Integer.MIN_VALUE, Integer.MAX_VALUE)) {
            due.same("of all, with a " + a, x.cost(a, NONE), 9);
        }
        due.same("of 0, 2", x.cost(0, 2), 3);
        due.same("of 2, 0", x.cost(2, 0), 3);
        due.same("of 1, 0", x.cost(1, 0), 3);
        x.pair(2, 1, false);
        due.same("apart", x.cost(2, 0), 0);
        due.same("of all then", x.cost(0, NONE), 3);
    }

    /** Promise 11: "NONE: no such two." */
    private static void costNoSuchTwo() {
        FaultHeaps x = Due.evenOnes(2);
        due.same("of two", x.cost(0, 1), 0);
        due.same("of one and itself", x.cost(0, 0), NONE);
        due.same("of the other one and itself", x.cost(1, 1), NONE);
        due.same("cost(-1, 0)", x.cost(-1, 0), NONE);
        due.same("cost(0, -2)", x.cost(0, -2), NONE);
        for (int r : frames(2, 64, Integer.MIN_VALUE, Integer.MAX_VALUE)) {
            due.same("cost(0, " + r + ")", x.cost(0, r), NONE);
            due.same("cost(" + r + ", 0)", x.cost(r, 0), NONE);
            due.same("cost(" + r + ", " + r + ")", x.cost(r, r), NONE);
        }
        due.same("of no report", new FaultHeaps().cost(0, 1), NONE);
    }

    /** Promise 12: "NONE: none such." */
    private static void rowNoneSuch() {
        FaultHeaps x = new FaultHeaps();
        Due.tell(x, 0, 1, 2, 3, 4, 5, 6, 7, 8, 9, 10, 11, 12);
        Due.tell(x, 0, 8, 9, 8, 9, 8, 9);
        Due.tell(x, 0, 0);
        due.same("frame 11 of 12", x.row(0, 11), 12);
        due.same("frame 12 of 12", x.row(0, 12), NONE);
        due.same("frame 1 of what is left", x.row(1, 1), 9);
        due.same("frame 2 went in the fold", x.row(1, 2), NONE);
        due.same("an unknown one is 0", x.row(2, 0), 0);
        due.same("and behind it is none", x.row(2, 1), NONE);
        for (int wrong : frames(-1, 40, 64, Integer.MIN_VALUE, Integer.MAX_VALUE)) {
            due.same("row(0, " + wrong + ")", x.row(0, wrong), NONE);
            due.same("row(" + wrong + ", 0)", x.row(wrong, 0), NONE);
        }
        due.same("row(3, 0)", x.row(3, 0), NONE);
        x.frame(7);
        due.same("a row that is told is no report's", x.row(3, 0), NONE);
    }

    /** Promise 13: "1 or 0." */
    private static void commonOneOrZero() {
        FaultHeaps x = new FaultHeaps();
        for (int r = 0; r < 5; r++) {
            Due.tell(x, 0, 0, 1, 500);
        }
        int[][] all = {{0, 0}, {1, 1}, {2, 0}, {499, 0}, {500, 1}, {501, 0}, {-1, 0}, {-500, 0}, {512, 0}, {513, 0},
            {Integer.MIN_VALUE, 0}, {Integer.MIN_VALUE + 1, 0}, {Integer.MAX_VALUE, 0}};
        for (int[] one : all) {
            due.same("common(" + one[0] + ")", x.common(one[0]), one[1]);
        }
        due.same("common(1) of a new one", new FaultHeaps().common(1), 0);
    }

    /** Promise 14: "0: there is no other HEAP" */
    private static void signNoOtherHeap() {
        FaultHeaps x = new FaultHeaps();
        Due.tell(x, 0, 0);
        due.sign("one report without a known frame", x, 0);
        Due.tell(x, 0, 5);
        due.same("one heap", x.count(1), 1);
        due.sign("no frame is in both", x, 1);
        Due.tell(x, 0, 11, 12, 13, 14, 15);
        due.same("two heaps", x.count(1), 2);
        due.same("no frame is in both, and there is another heap", x.sign(1), NONE);
        due.sign("the other heap", x, 2, 11);
        FaultHeaps y = new FaultHeaps();
        for (int r = 0; r < 40; r++) {
            Due.tell(y, 0, 5);
        }
        due.sign("one heap of forty", y, 39);
    }

    /** Promise 14: "NONE: no such REPORT, no MARK." */
    private static void signNone() {
        FaultHeaps x = with(0, frames(1, 2), frames(2, 1), frames(3));
        due.same("the same frames in another heap", x.sign(0), NONE);
        due.same("in that one, too", x.sign(1), NONE);
        due.sign("a mark", x, 2, 3);
        for (int r : frames(-1, 3, 40, 64, Integer.MIN_VALUE, Integer.MAX_VALUE)) {
            due.same("sign(" + r + ")", x.sign(r), NONE);
            due.latest("the latest stays", x, 3);
        }
        due.same("no mark", x.sign(0), NONE);
        due.latest("the latest stays", x, 3);
        FaultHeaps y = new FaultHeaps();
        due.same("sign(0) of a new one", y.sign(0), NONE);
        due.latest("none was told", y);
    }

    /** Promise 15: "NONE." */
    private static void signedNone() {
        FaultHeaps x = with(0, frames(1, 2, 3), frames(1, 2), frames(1, 3), frames(2, 3), frames(9));
        due.same("none is told yet", x.signed(0), NONE);
        due.sign("three", x, 0, 1, 2, 3);
        for (int k : frames(-1, 3, 4, 64, Integer.MIN_VALUE, Integer.MAX_VALUE)) {
            due.same("signed(" + k + ")", x.signed(k), NONE);
        }
        due.sign("one", x, 4, 9);
        due.same("nothing is left of the three", x.signed(1), NONE);
        due.same("nothing at all", x.signed(2), NONE);
        x.mark(40);
        due.sign("a mark of no frames", x, 4);
        due.same("nothing is left of the one", x.signed(0), NONE);
    }

    /** Promise 16: "(in place of one ahead)" */
    private static void fixInPlaceOfOneAhead() {
        FaultHeaps x = new FaultHeaps();
        x.version(0);
        x.version(1);
        Due.tell(x, 1, 5);
        due.yes("fix(0, 0)", x.fix(0, 0));
        due.same("at 0", Due.look(x, 0, 2), 0);
        due.same("it came back", Due.look(x, 0, 3), 1);
        due.yes("fix(0, 2)", x.fix(0, 2));
        due.same("at 2", Due.look(x, 0, 2), 2);
        due.same("it did not come back, as the fix at 0 is gone", Due.look(x, 0, 3), 0);
        due.same("none did", x.count(7), 0);
        due.yes("fix(0, 2) again", x.fix(0, 2));
        due.yes("fix(0, 1)", x.fix(0, 1));
        due.same("at 1", Due.look(x, 0, 2), 1);
        due.same("it came back again", x.count(7), 1);
    }

    /** Promise 16: "false: none such." */
    private static void fixNoneSuch() {
        FaultHeaps x = new FaultHeaps();
        due.no("no report", x.fix(0, 0));
        x.version(0);
        Due.tell(x, 0, 5);
        due.same("it is fixed nowhere", Due.look(x, 0, 2), NONE);
        due.yes("fix(0, 1)", x.fix(0, 1));
        for (int wrong : frames(-1, 2, 40, 64, Integer.MIN_VALUE, Integer.MAX_VALUE)) {
            due.no("fix(0, " + wrong + ")", x.fix(0, wrong));
            due.no("fix(" + wrong + ", 0)", x.fix(wrong, 0));
            due.no("fix(" + wrong + ", " + wrong + ")", x.fix(wrong, wrong));
        }
        due.same("it is fixed where it was", Due.look(x, 0, 2), 1);
        due.no("fix(1, 1)", x.fix(1, 1));
        Due.tell(x, 0, 6);
        due.same("a later report is fixed nowhere", Due.look(x, 1, 2), NONE);
    }

    /** Promise 17: "where it is FIXED (NONE)" */
    private static void lookWhereItIsFixed() {
        FaultHeaps x = new FaultHeaps();
        for (int v = 1; v <= 29; v++) {
            x.version(0);
        }
        Due.tell(x, 29, 5);
        Due.tell(x, 0, 5);
        due.same("the same heap", x.heap(1), 0);
        due.same("nowhere", Due.look(x, 0, 2), NONE);
        due.same("so it did not come back", Due.look(x, 0, 3), 0);
        x.fix(1, 0);
        due.same("the other one is fixed at 0", Due.look(x, 1, 2), 0);
        due.same("this one nowhere", Due.look(x, 0, 2), NONE);
        due.same("but it came back", Due.look(x, 0, 3), 1);
        x.fix(0, 29);
        due.same("at 29", Due.look(x, 0, 2), 29);
        due.same("version 29", Due.look(x, 0, 0), 29);
    }

    /** Promise 17: "NoSuchElementException: none such." */
    private static void lookNoneSuch() {
        FaultHeaps x = new FaultHeaps();
        for (int what = -1; what <= 5; what++) {
            due.same("look(0, " + what + ") of a new one", Due.look(x, 0, what), Due.THROWN);
        }
        Due.tell(x, 0, 5);
        String ahead = Seen.of(x);
        int[] all = {0, 1, -1, 0, 1};
        for (int what = 0; what < all.length; what++) {
            due.same("look(0, " + what + ")", Due.look(x, 0, what), all[what]);
            for (int r : frames(-1, 1, 40, 64, Integer.MIN_VALUE, Integer.MAX_VALUE)) {
                due.same("look(" + r + ", " + what + ")", Due.look(x, r, what), Due.THROWN);
            }
        }
        for (int what : frames(-1, 5, 6, 64, Integer.MIN_VALUE, Integer.MAX_VALUE)) {
            due.same("look(0, " + what + ")", Due.look(x, 0, what), Due.THROWN);
            due.same("look(1, " + what + ")", Due.look(x, 1, what), Due.THROWN);
        }
        due.unchanged("behind what was thrown", x, ahead);
    }

    /** Promise 18: "Whether a VERSION is another one, or behind it: 1 or 0; NONE: none such." */
    private static void behindNoneSuch() {
        FaultHeaps x = new FaultHeaps();
        x.version(0);
        due.same("behind(1, 0)", x.behind(1, 0), 1);
        due.same("behind(0, 1)", x.behind(0, 1), 0);
        due.same("behind(1, 1)", x.behind(1, 1), 1);
        for (int v : frames(-1, 2, 30, 32, 33, 64, Integer.MIN_VALUE, Integer.MAX_VALUE)) {
            due.same("behind(" + v + ", 0)", x.behind(v, 0), NONE);
            due.same("behind(0, " + v + ")", x.behind(0, v), NONE);
            due.same("behind(" + v + ", " + v + ")", x.behind(v, v), NONE);
        }
        x.version(1);
        due.same("behind(2, 0) now", x.behind(2, 0), 1);
    }

    /** Promise 19: "NONE for another what." */
    private static void countAnotherWhat() {
        FaultHeaps x = Due.evenOnes(2);
        x.pair(0, 1, true);
        x.fix(0, 0);
        x.frame(5);
        int[] all = {2, 1, 1, 3, 1, 0, 1, 2};
        for (int what = 0; what < all.length; what++) {
            due.same("count(" + what + ")", x.count(what), all[what]);
        }
        for (int what : frames(-1, 8, 9, 64, Integer.MIN_VALUE, Integer.MAX_VALUE)) {
            due.same("count(" + what + ")", x.count(what), NONE);
        }
    }
}
