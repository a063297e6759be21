/** Promises 1, 2, 4 and 12: a new object, frame, report and row. */
public final class RowsTest {
    private static final Due due = new Due();

    public static void main(String[] args) {
        newObject();
        framesOfARow();
        reportsAndWrongOnes();
        fortyReports();
        partsThatOverlap();
        folds();
        rowOfNoSuchReport();
        due.end("RowsTest");
    }

    private static void newObject() {
        FaultHeaps x = new FaultHeaps();
        due.same("new: reports", x.count(0), 0);
        due.same("new: heaps", x.count(1), 0);
        due.same("new: versions", x.count(2), 1);
        due.same("new: T", x.count(3), 6);
        due.same("new: frames told", x.count(4), 0);
        due.same("new: common ones", x.count(5), 0);
        due.same("new: changes", x.count(6), 0);
        due.same("new: came back", x.count(7), 0);
        due.same("new: cost of all", x.cost(FaultHeaps.NONE, FaultHeaps.NONE), 0);
        due.same("new: resettle", x.resettle(), 0);
        due.same("new: heap(0)", x.heap(0), -1);
        due.same("new: sign(0)", x.sign(0), -1);
        due.same("new: signed(0)", x.signed(0), -1);
    }

    private static void framesOfARow() {
        FaultHeaps x = new FaultHeaps();
        due.same("frame(-1)", x.frame(-1), -1);
        due.same("frame(501)", x.frame(501), -1);
        due.same("frame(least int)", x.frame(Integer.MIN_VALUE), -1);
        due.same("frame(most int)", x.frame(Integer.MAX_VALUE), -1);
        due.same("wrong frames do not count", x.count(4), 0);
        due.same("frame(0)", x.frame(0), 1);
        due.same("frame(500)", x.frame(500), 2);
        for (int n = 3; n <= 12; n++) {
            due.same("frame " + n, x.frame(n), n);
        }
        due.same("frame 13", x.frame(13), -1);
        due.same("12 are told", x.count(4), 12);
        due.same("report of 12", x.report(0), 0);
        due.row("12 frames", x, 0, 0, 500, 3, 4, 5, 6, 7, 8, 9, 10, 11, 12);
        due.same("none is told behind a report", x.count(4), 0);
        due.same("the next row begins anew", x.frame(7), 1);
    }

    private static void reportsAndWrongOnes() {
        FaultHeaps x = new FaultHeaps();
        due.same("no frames", x.report(0), -1);
        x.frame(4);
        due.same("no version 1", x.report(1), -1);
        due.same("no version -1", x.report(-1), -1);
        due.same("the row is told still", x.count(4), 1);
        due.same("no report yet", x.count(0), 0);
        due.same("report(0)", x.report(0), 0);
        due.same("no frames again", x.report(0), -1);
        due.same("one report", x.count(0), 1);
        x.version(0);
        due.same("report of version 1", Due.tell(x, 1, 9), 1);
        due.same("its version", Due.look(x, 1, 0), 1);
    }

    private static void fortyReports() {
        FaultHeaps x = new FaultHeaps();
        for (int r = 0; r < 40; r++) {
            due.same("report " + r, Due.tell(x, 0, 1 + r, 100 + r, 200 + r, 300 + r), r);
        }
        x.frame(5);
        due.same("40 are there", x.report(0), -1);
        due.same("the row is told still at 40", x.count(4), 1);
        due.same("40 reports", x.count(0), 40);
        due.same("40 heaps", x.count(1), 40);
        due.same("distance of the last two", x.distance(38, 39), 12);
        due.same("heap of the last", x.heap(39), 39);
        due.sign("the last", x, 39, 40);
    }

    // With parts of 3 FRAMES at most, which one goes first never shows in the end: these ROWS could be folded in several ways.
    private static void partsThatOverlap() {
        FaultHeaps x = new FaultHeaps();
        due.row("1 and 3", x, Due.tell(x, 0, 1, 1, 2, 1, 1, 2), 1, 2);
        due.row("2 and 3", x, Due.tell(x, 0, 1, 2, 3, 1, 2, 3, 2, 3), 1, 2, 3);
        due.row("2 and 2", x, Due.tell(x, 0, 1, 2, 1, 2, 1), 1, 2, 1);
        due.row("3 and 3", x, Due.tell(x, 0, 1, 2, 3, 1, 2, 3, 1, 2), 1, 2, 3, 1, 2);
    }

    private static void folds() {
        FaultHeaps x = new FaultHeaps();
        due.row("twelve the same", x, Due.tell(x, 0, 4, 4, 4, 4, 4, 4, 4, 4, 4, 4, 4, 4), 4);
        due.row("unknown ones", x, Due.tell(x, 0, 0, 0, 1, 0, 0, 1), 0, 1);
        due.row("at the end", x, Due.tell(x, 0, 9, 1, 2, 3, 1, 2, 3), 9, 1, 2, 3);
        due.row("a part of 4 stays", x, Due.tell(x, 0, 1, 2, 3, 4, 1, 2, 3, 4), 1, 2, 3, 4, 1, 2, 3, 4);
        due.row("not right behind", x, Due.tell(x, 0, 1, 2, 9, 1, 2), 1, 2, 9, 1, 2);
        due.row("four parts of 3", x, Due.tell(x, 0, 1, 2, 3, 1, 2, 3, 1, 2, 3, 1, 2, 3), 1, 2, 3);
        // 2 2 goes, and 1 2 3 1 2 3 stands there only then.
        due.row("a fold makes a fold", x, Due.tell(x, 0, 1, 2, 2, 3, 1, 2, 3), 1, 2, 3);
    }

    private static void rowOfNoSuchReport() {
        FaultHeaps x = new FaultHeaps();
        due.same("row(0, 0) of none", x.row(0, 0), -1);
        Due.tell(x, 0, 3, 4);
        due.same("row(0, -1)", x.row(0, -1), -1);
        due.same("row(0, 2)", x.row(0, 2), -1);
        due.same("row(0, 12)", x.row(0, 12), -1);
        due.same("row(1, 0)", x.row(1, 0), -1);
        due.same("row(-1, 0)", x.row(-1, 0), -1);
        due.same("row(40, 0)", x.row(40, 0), -1);
    }
}
