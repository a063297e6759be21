/** The calls under "How to use it" in README.md answer what stands behind them there. */
public final class ReadmeTest {
    public static void main(String[] args) {
        Due due = new Due();
        FaultHeaps x = new FaultHeaps();
        int next = x.version(0);
        due.same("version(0)", next, 1);
        x.frame(1);
        x.frame(2);
        due.same("frame(3)", x.frame(3), 3);
        int first = x.report(0);
        due.same("the first report", first, 0);
        int second = Due.tell(x, next, 1, 2, 4);
        due.same("the second report", second, 1);
        int third = Due.tell(x, 0, 7, 8, 9);
        due.same("the third report", third, 2);
        due.same("distance(first, second)", x.distance(first, second), 3);
        due.same("heap(second)", x.heap(second), 0);
        due.same("heap(third)", x.heap(third), 2);
        due.same("sign(first)", x.sign(first), 1);
        due.same("signed(0)", x.signed(0), 1);
        due.yes("fix(first, next)", x.fix(first, next));
        due.same("look(first, 3)", Due.look(x, first, 3), 0);
        due.same("look(second, 3)", Due.look(x, second, 3), 1);
        due.yes("pair(first, second, false)", x.pair(first, second, false));
        due.same("heap(second) apart", x.heap(second), 1);
        due.same("cost(0, NONE)", x.cost(0, FaultHeaps.NONE), 3);
        due.same("look(second, 3) apart", Due.look(x, second, 3), 0);
        due.end("ReadmeTest");
    }
}
