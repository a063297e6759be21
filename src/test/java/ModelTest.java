import java.util.Random;

/** All promises: long runs of calls, the same ones each time, answered as the plain model answers them. */
public final class ModelTest {
    private static final int RUNS = 220;

    public static void main(String[] args) {
        Due due = new Due();
        for (int run = 0; run < RUNS; run++) {
            new OneRun(run, due).go();
        }
        due.end("ModelTest");
    }

    private static final class OneRun {
        private final Random random;
        private final Due due;
        private final String name;
        private final FaultHeaps x = new FaultHeaps();
        private final PlainModel model = new PlainModel();
        // Few FRAMES make near ROWS, many folds and COMMON ones; short ROWS make many equal changes.
        private final int frames;
        private final int longest;
        private final int mostReports;

        OneRun(int run, Due due) {
            this.random = new Random(run);
            this.due = due;
            this.name = "run " + run + ": ";
            this.frames = new int[] {2, 4, 8, 20, 501}[run % 5];
            this.longest = new int[] {2, 4, 7, 13}[run / 5 % 4];
            this.mostReports = run % 20 == 7 ? 41 : 4 + run % 13;
        }

        void go() {
            for (int k = 0; k < 60; k++) {
                tellARow();
                for (int more = random.nextInt(4); more > 0; more--) {
                    change();
                }
                for (int more = random.nextInt(4); more > 0; more--) {
                    ask();
                }
            }
            lookAtAll();
        }

        private void tellARow() {
            if (model.count(0) >= mostReports) {
                return;
            }
            for (int n = random.nextInt(longest + 1); n > 0; n--) {
                int f = random.nextInt(40) == 0 ? wide(501) : random.nextInt(frames);
                same("frame(" + f + ")", x.frame(f), model.frame(f));
            }
            int v = wide(model.count(2));
            same("report(" + v + ")", x.report(v), model.report(v));
        }

        /** A number of those from 0 on, now and then one of the wrong ones beside them. */
        private int wide(int bound) {
            return random.nextInt(12) == 0 ? random.nextInt(bound + 4) - 2 : random.nextInt(Math.max(bound, 1));
        }

        private void change() {
            int a = wide(model.count(0));
            int b = wide(model.count(0));
            boolean together = random.nextBoolean();
            switch (random.nextInt(9)) {
                case 0, 1 -> same("pair(" + a + ", " + b + ", " + together + ")", x.pair(a, b, together), model.pair(a, b, together));
                case 2, 3 -> same("free(" + a + ", " + b + ")", x.free(a, b), model.free(a, b));
                case 4 -> {
                    int t = random.nextBoolean() ? random.nextInt(10) : wide(41);
                    same("mark(" + t + ")", x.mark(t), model.mark(t));
                }
                case 5 -> same("resettle()", x.resettle(), model.resettle());
                case 6 -> {
                    int v = wide(model.count(2));
                    same("version(" + v + ")", x.version(v), model.version(v));
                }
                default -> {
                    int v = wide(model.count(2));
                    same("fix(" + a + ", " + v + ")", x.fix(a, v), model.fix(a, v));
                }
            }
        }

        private void ask() {
            int a = wide(model.count(0));
            int b = wide(model.count(0));
            int k = random.nextInt(6) - 1;
            int v = wide(model.count(2));
            int of = wide(model.count(2));
            int f = random.nextInt(frames);
            switch (random.nextInt(10)) {
                case 0 -> same("distance(" + a + ", " + b + ")", x.distance(a, b), model.distance(a, b));
                case 1 -> same("heap(" + a + ")", x.heap(a), model.heap(a));
                case 2 -> same("cost(" + a + ", " + b + ")", x.cost(a, b), model.cost(a, b));
                case 3 -> same("row(" + a + ", " + k + ")", x.row(a, k), model.row(a, k));
                case 4 -> same("common(" + f + ")", x.common(f), model.common(f));
                case 5 -> same("sign(" + a + ")", x.sign(a), model.sign(a));
                case 6 -> same("signed(" + k + ")", x.signed(k), model.signed(k));
                case 7 -> same("look(" + a + ", " + k + ")", Due.look(x, a, k), model.look(a, k));
                case 8 -> same("behind(" + v + ", " + of + ")", x.behind(v, of), model.behind(v, of));
                default -> lookAtAll();
            }
        }

        private void lookAtAll() {
            for (int what = -1; what <= 8; what++) {
                same("count(" + what + ")", x.count(what), model.count(what));
            }
            same("cost(0, -1)", x.cost(0, -1), model.cost(0, -1));
            for (int r = 0; r < model.count(0); r++) {
                same("heap(" + r + ")", x.heap(r), model.heap(r));
                same("sign(" + r + ")", x.sign(r), model.sign(r));
                for (int k = -1; k <= 5; k++) {
                    same("signed(" + k + ")", x.signed(k), model.signed(k));
                    same("look(" + r + ", " + k + ")", Due.look(x, r, k), model.look(r, k));
                }
                for (int other = 0; other < r; other++) {
                    same("distance(" + r + ", " + other + ")", x.distance(r, other), model.distance(r, other));
                    same("cost(" + r + ", " + other + ")", x.cost(r, other), model.cost(r, other));
                }
            }
        }

        private void same(String call, long got, long want) {
            due.same(name + call, got, want);
        }

        private void same(String call, boolean got, boolean want) {
            due.same(name + call, got ? 1 : 0, want ? 1 : 0);
        }
    }
}
