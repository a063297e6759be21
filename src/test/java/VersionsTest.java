/** Promises 3 and 18: version and behind. */
public final class VersionsTest {
    private static final Due due = new Due();

    public static void main(String[] args) {
        branches();
        thirtyVersions();
        wrongOnes();
        due.end("VersionsTest");
    }

    private static void branches() {
        FaultHeaps x = new FaultHeaps();
        due.same("version(0)", x.version(0), 1);
        due.same("version(1)", x.version(1), 2);
        due.same("version(1) again", x.version(1), 3);
        due.same("version(0) again", x.version(0), 4);
        due.same("version(2)", x.version(2), 5);
        int[][] isBehind = {
            {1, 0, 0, 0, 0, 0},
            {1, 1, 0, 0, 0, 0},
            {1, 1, 1, 0, 0, 0},
            {1, 1, 0, 1, 0, 0},
            {1, 0, 0, 0, 1, 0},
            {1, 1, 1, 0, 0, 1},
        };
        for (int v = 0; v < 6; v++) {
            for (int of = 0; of < 6; of++) {
                due.same("behind(" + v + ", " + of + ")", x.behind(v, of), isBehind[v][of]);
            }
        }
    }

    private static void thirtyVersions() {
        FaultHeaps x = new FaultHeaps();
        for (int v = 1; v < 30; v++) {
            due.same("version " + v, x.version(v - 1), v);
        }
        due.same("30 are there", x.version(0), -1);
        due.same("30 versions", x.count(2), 30);
        due.same("behind(29, 0)", x.behind(29, 0), 1);
        due.same("behind(29, 28)", x.behind(29, 28), 1);
        due.same("behind(28, 29)", x.behind(28, 29), 0);
        due.same("behind(29, 29)", x.behind(29, 29), 1);
        due.same("behind(30, 0)", x.behind(30, 0), -1);
        due.same("report of version 29", Due.tell(x, 29, 1), 0);
        due.yes("fix at version 29", x.fix(0, 29));
        due.same("it came back", Due.look(x, 0, 3), 1);
    }

    private static void wrongOnes() {
        FaultHeaps x = new FaultHeaps();
        due.same("version(1)", x.version(1), -1);
        due.same("version(-1)", x.version(-1), -1);
        due.same("version(most int)", x.version(Integer.MAX_VALUE), -1);
        due.same("one version", x.count(2), 1);
        due.same("behind(0, 0)", x.behind(0, 0), 1);
        due.same("behind(0, 1)", x.behind(0, 1), -1);
        due.same("behind(1, 0)", x.behind(1, 0), -1);
        due.same("behind(-1, 0)", x.behind(-1, 0), -1);
        due.same("behind(0, -1)", x.behind(0, -1), -1);
        due.same("behind(0, least int)", x.behind(0, Integer.MIN_VALUE), -1);
    }
}
