import java.util.NoSuchElementException;

/** Holds answers against those that are due, and counts the wrong ones. */
final class Due {
    static final long THROWN = Long.MIN_VALUE;

    private int wrong = 0;

    void same(String call, long got, long due) {
        if (got != due) {
            wrong++;
            System.out.println(call + " answered " + got + ", due is " + due);
        }
    }

    void yes(String call, boolean got) {
        same(call, got ? 1 : 0, 1);
    }

    void no(String call, boolean got) {
        same(call, got ? 1 : 0, 0);
    }

    /** What an object shows of itself now is what it showed ahead. */
    void unchanged(String when, FaultHeaps x, String ahead) {
        String now = Seen.of(x);
        if (!now.equals(ahead)) {
            wrong++;
            System.out.println(when + ": [" + now + "], due is [" + ahead + "]");
        }
    }

    /** The HEAP of every REPORT, from REPORT 0 on. */
    void heaps(String when, FaultHeaps x, int... due) {
        for (int r = 0; r < due.length; r++) {
            same(when + ": heap(" + r + ")", x.heap(r), due[r]);
        }
    }

    /** The FOLDED ROW of a REPORT, from its first FRAME to its end. */
    void row(String when, FaultHeaps x, int report, int... due) {
        for (int k = 0; k < due.length; k++) {
            same(when + ": row(" + report + ", " + k + ")", x.row(report, k), due[k]);
        }
        same(when + ": row(" + report + ", " + due.length + ")", x.row(report, due.length), FaultHeaps.NONE);
        same(when + ": look(" + report + ", 1)", look(x, report, 1), due.length);
    }

    /** The MARK that sign() tells, and that signed() tells behind it. */
    void sign(String when, FaultHeaps x, int report, int... due) {
        same(when + ": sign(" + report + ")", x.sign(report), due.length);
        latest(when, x, due);
    }

    void latest(String when, FaultHeaps x, int... due) {
        for (int k = 0; k < due.length; k++) {
            same(when + ": signed(" + k + ")", x.signed(k), due[k]);
        }
        same(when + ": signed(" + due.length + ")", x.signed(due.length), FaultHeaps.NONE);
    }

    static long look(FaultHeaps x, int report, int what) {
        try {
            return x.look(report, what);
        } catch (NoSuchElementException e) {
            return THROWN;
        }
    }

    /** Tells a ROW and makes it a REPORT. */
    static int tell(FaultHeaps x, int version, int... frames) {
        for (int f : frames) {
            x.frame(f);
        }
        return x.report(version);
    }

    /** An object with REPORTS of one FRAME each (1, 2, ..), all at DISTANCE 3, and T 3: all alone, all changes worth nothing. */
    static FaultHeaps evenOnes(int howMany) {
        FaultHeaps x = new FaultHeaps();
        x.mark(3);
        for (int f = 1; f <= howMany; f++) {
            tell(x, 0, f);
        }
        return x;
    }

    /** Puts two REPORTS together, with nothing told of them behind it. */
    static void lay(FaultHeaps x, int a, int b) {
        x.pair(a, b, true);
        x.free(a, b);
    }

    void end(String test) {
        System.out.println(test + ": " + (wrong == 0 ? "all answers are as due" : wrong + " answers are not as due"));
        if (wrong != 0) {
            System.exit(1);
        }
    }
}
