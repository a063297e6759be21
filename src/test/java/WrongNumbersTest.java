import java.util.Arrays;

/**
 * Promises 2 to 19: every call with numbers that name nothing, on an object
 * that is new, one that is in use and one that is full. Each call is refused
 * as its promise says and leaves the object as it was.
 */
public final class WrongNumbersTest {
    // Some of them wrap to a right number where only 5, 6, 8, 9 or 16 bits are looked at.
    private static final int[] ODD = {
        Integer.MIN_VALUE, Integer.MIN_VALUE + 1, -65536, -512, -64, -32, -2, -1,
        32, 64, 256, 512, 65536, Integer.MAX_VALUE - 1, Integer.MAX_VALUE,
    };
    private static final int NONE = FaultHeaps.NONE;
    private static final Due due = new Due();

    /** The objects that the calls are tried on. */
    private enum Kind { NEW, USED, FULL }

    /** One promise, tried with all wrong numbers on an object of its own. */
    private interface Trial {
        void on(FaultHeaps x, String when);
    }

    public static void main(String[] args) {
        for (Kind kind : Kind.values()) {
            tryOn(kind, "frame", WrongNumbersTest::frames);
            tryOn(kind, "version", WrongNumbersTest::versions);
            tryOn(kind, "report", WrongNumbersTest::reports);
            tryOn(kind, "pair", WrongNumbersTest::pairs);
            tryOn(kind, "free", WrongNumbersTest::frees);
            tryOn(kind, "mark", WrongNumbersTest::marks);
            tryOn(kind, "distance", WrongNumbersTest::distances);
            tryOn(kind, "heap", WrongNumbersTest::heaps);
            tryOn(kind, "cost", WrongNumbersTest::costs);
            tryOn(kind, "row", WrongNumbersTest::rows);
            tryOn(kind, "common", WrongNumbersTest::commons);
            tryOn(kind, "sign", WrongNumbersTest::signs);
            tryOn(kind, "signed", WrongNumbersTest::signeds);
            tryOn(kind, "fix", WrongNumbersTest::fixes);
            tryOn(kind, "look", WrongNumbersTest::looks);
            tryOn(kind, "behind", WrongNumbersTest::behinds);
            tryOn(kind, "count", WrongNumbersTest::counts);
        }
        due.end("WrongNumbersTest");
    }

    private static void tryOn(Kind kind, String call, Trial trial) {
        FaultHeaps x = made(kind);
        String ahead = Seen.of(x);
        trial.on(x, kind + ": ");
        due.unchanged(kind + ": wrong numbers for " + call, x, ahead);
    }

    private static FaultHeaps made(Kind kind) {
        switch (kind) {
            case NEW:
                return new FaultHeaps();
            case USED:
                return used();
            default:
                return full();
        }
    }

    /** REPORTS of three HEAPS, with all that can be told of them, a MARK told and a ROW begun. */
    private static FaultHeaps used() {
        FaultHeaps x = new FaultHeaps();
        x.version(0);
        x.version(1);
        Due.tell(x, 0, 1, 2, 3);
        Due.tell(x, 2, 1, 2, 4);
        Due.tell(x, 1, 7, 8, 9);
        x.pair(0, 1, false);
        x.pair(0, 2, false);
        x.fix(1, 1);
        x.sign(2);
        x.frame(5);
        x.frame(6);
        return x;
    }

    /** 40 REPORTS, 30 VERSIONS and 12 FRAMES told. */
    private static FaultHeaps full() {
        FaultHeaps x = new FaultHeaps();
        for (int v = 1; v < 30; v++) {
            x.version(v / 2);
        }
        x.mark(2);
        for (int r = 0; r < 40; r++) {
            Due.tell(x, r % 30, 461 + r);
        }
        x.pair(38, 39, true);
        x.fix(38, 0);
        x.sign(0);
        for (int f = 1; f <= 12; f++) {
            x.frame(f);
        }
        return x;
    }

    /** Numbers that are none of 0 .. howMany - 1, the two just outside among them. */
    private static int[] outside(int howMany) {
        int[] all = Arrays.copyOf(ODD, ODD.length + 2);
        all[ODD.length] = howMany;
        all[ODD.length + 1] = howMany + 1;
        return Arrays.stream(all).filter(n -> n < 0 || n >= howMany).distinct().toArray();
    }

    private static int[] noReports(FaultHeaps x) {
        return outside(x.count(0));
    }

    private static int[] noVersions(FaultHeaps x) {
        return outside(x.count(2));
    }

    private static String call(String name, Object... given) {
        String all = Arrays.toString(given);
        return name + "(" + all.substring(1, all.length() - 1) + ")";
    }

    private static void frames(FaultHeaps x, String when) {
        for (int f : outside(501)) {
            due.same(when + call("frame", f), x.frame(f), NONE);
        }
    }

    private static void versions(FaultHeaps x, String when) {
        for (int v : noVersions(x)) {
            due.same(when + call("version", v), x.version(v), NONE);
        }
    }

    private static void reports(FaultHeaps x, String when) {
        for (int v : noVersions(x)) {
            due.same(when + call("report", v), x.report(v), NONE);
        }
    }

    private static void pairs(FaultHeaps x, String when) {
        for (int r : noReports(x)) {
            due.no(when + call("pair", r, 0, true), x.pair(r, 0, true));
            due.no(when + call("pair", r, 0, false), x.pair(r, 0, false));
            due.no(when + call("pair", 0, r, true), x.pair(0, r, true));
            due.no(when + call("pair", 0, r, false), x.pair(0, r, false));
            due.no(when + call("pair", r, r, true), x.pair(r, r, true));
        }
    }

    private static void frees(FaultHeaps x, String when) {
        for (int r : noReports(x)) {
            due.no(when + call("free", r, 0), x.free(r, 0));
            due.no(when + call("free", 0, r), x.free(0, r));
            due.no(when + call("free", r, r), x.free(r, r));
        }
    }

    private static void marks(FaultHeaps x, String when) {
        for (int t : outside(41)) {
            due.no(when + call("mark", t), x.mark(t));
        }
    }

    private static void distances(FaultHeaps x, String when) {
        for (int r : noReports(x)) {
            due.same(when + call("distance", r, 0), x.distance(r, 0), NONE);
            due.same(when + call("distance", 0, r), x.distance(0, r), NONE);
            due.same(when + call("distance", r, r), x.distance(r, r), NONE);
        }
    }

    private static void heaps(FaultHeaps x, String when) {
        for (int r : noReports(x)) {
            due.same(when + call("heap", r), x.heap(r), NONE);
        }
    }

    private static void costs(FaultHeaps x, String when) {
        int all = x.cost(0, NONE);
        for (int r : noReports(x)) {
            due.same(when + call("cost", r, NONE), x.cost(r, NONE), all);
            due.same(when + call("cost", r, 0), x.cost(r, 0), NONE);
            if (r != NONE) {
                due.same(when + call("cost", 0, r), x.cost(0, r), NONE);
                due.same(when + call("cost", r, r), x.cost(r, r), NONE);
            }
        }
    }

    private static void rows(FaultHeaps x, String when) {
        for (int r : noReports(x)) {
            due.same(when + call("row", r, 0), x.row(r, 0), NONE);
            due.same(when + call("row", r, r), x.row(r, r), NONE);
        }
        int last = x.count(0) - 1;
        for (int k : outside(last < 0 ? 0 : (int) Due.look(x, last, 1))) {
            due.same(when + call("row", last, k), x.row(last, k), NONE);
        }
    }

    private static void commons(FaultHeaps x, String when) {
        for (int f : outside(501)) {
            due.same(when + call("common", f), x.common(f), 0);
        }
    }

    private static void signs(FaultHeaps x, String when) {
        for (int r : noReports(x)) {
            due.same(when + call("sign", r), x.sign(r), NONE);
        }
    }

    private static void signeds(FaultHeaps x, String when) {
        int latest = x.count(0) == 0 ? 0 : 1;
        for (int k : outside(latest)) {
            due.same(when + call("signed", k), x.signed(k), NONE);
        }
    }

    private static void fixes(FaultHeaps x, String when) {
        for (int r : noReports(x)) {
            due.no(when + call("fix", r, 0), x.fix(r, 0));
            due.no(when + call("fix", r, r), x.fix(r, r));
        }
        for (int v : noVersions(x)) {
            due.no(when + call("fix", 0, v), x.fix(0, v));
        }
    }

    private static void looks(FaultHeaps x, String when) {
        for (int r : noReports(x)) {
            for (int what = 0; what <= 4; what++) {
                due.same(when + call("look", r, what), Due.look(x, r, what), Due.THROWN);
            }
            due.same(when + call("look", r, r), Due.look(x, r, r), Due.THROWN);
        }
        for (int what : outside(5)) {
            due.same(when + call("look", 0, what), Due.look(x, 0, what), Due.THROWN);
        }
    }

    private static void behinds(FaultHeaps x, String when) {
        for (int v : noVersions(x)) {
            due.same(when + call("behind", v, 0), x.behind(v, 0), NONE);
            due.same(when + call("behind", 0, v), x.behind(0, v), NONE);
            due.same(when + call("behind", v, v), x.behind(v, v), NONE);
        }
    }

    private static void counts(FaultHeaps x, String when) {
        for (int what : outside(8)) {
            due.same(when + call("count", what), x.count(what), NONE);
        }
    }
}
