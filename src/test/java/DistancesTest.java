/** Promises 9 and 13: distance and common. */
public final class DistancesTest {
    private static final Due due = new Due();

    public static void main(String[] args) {
        costs();
        farthest();
        fourOfFive();
        commonOnesComeAndGo();
        commonThroughout();
        countedOnceAReport();
        wrongOnes();
        due.end("DistancesTest");
    }

    private static void apart(String what, int cost, int[] one, int[] other) {
        FaultHeaps x = new FaultHeaps();
        Due.tell(x, 0, one);
        Due.tell(x, 0, other);
        due.same(what, x.distance(0, 1), cost);
        due.same(what + ", the other way", x.distance(1, 0), cost);
    }

    private static int[] frames(int... frames) {
        return frames;
    }

    private static void costs() {
        apart("the same", 0, frames(1, 2, 3), frames(1, 2, 3));
        apart("one put in", 2, frames(1, 3), frames(1, 2, 3));
        apart("an unknown one put in", 1, frames(1, 3), frames(1, 0, 3));
        apart("one changed", 3, frames(1, 2, 3), frames(1, 4, 3));
        apart("one changed to an unknown one", 2, frames(1, 2, 3), frames(1, 0, 3));
        apart("unknown ones are the same", 0, frames(0, 2), frames(0, 2));
        apart("shifted", 4, frames(1, 2, 3, 4), frames(2, 3, 4, 5));
        apart("turned round", 4, frames(1, 2), frames(2, 1));
        apart("unknown ones and others", 4, frames(0, 1, 0), frames(2, 1, 3));
        apart("left out and changed", 5, frames(1, 2, 3), frames(4, 3));
    }

    private static void farthest() {
        apart("12 against 12 others", 36, frames(1, 2, 3, 4, 5, 6, 7, 8, 9, 10, 11, 12),
            frames(21, 22, 23, 24, 25, 26, 27, 28, 29, 30, 31, 32));
        apart("12 against 1", 25, frames(1, 2, 3, 4, 5, 6, 7, 8, 9, 10, 11, 12), frames(500));
    }

    private static void fourOfFive() {
        FaultHeaps x = new FaultHeaps();
        for (int r = 0; r < 4; r++) {
            Due.tell(x, 0, 9, 10 + r);
            due.same("9 at " + (r + 1) + " reports", x.common(9), 0);
            due.same("common ones at " + (r + 1) + " reports", x.count(5), 0);
        }
        due.same("distance ahead", x.distance(0, 1), 3);
        Due.tell(x, 0, 20, 21, 22);
        due.same("9 in 4 of 5", x.common(9), 1);
        due.same("20 in 1 of 5", x.common(20), 0);
        due.same("one common one", x.count(5), 1);
        due.same("9 is left out on one side", x.distance(0, 4), 7);
        Due.tell(x, 0, 30);
        due.same("9 in 4 of 6", x.common(9), 0);
        due.same("9 is not left out any more", x.distance(0, 4), 8);
        Due.tell(x, 0, 9, 40);
        due.same("9 in 5 of 7", x.common(9), 0);
        Due.tell(x, 0, 9, 41);
        due.same("9 in 6 of 8", x.common(9), 0);
        Due.tell(x, 0, 9, 42);
        due.same("9 in 7 of 9", x.common(9), 0);
        Due.tell(x, 0, 9, 43);
        due.same("9 in 8 of 10", x.common(9), 1);
    }

    private static void commonOnesComeAndGo() {
        FaultHeaps x = new FaultHeaps();
        // 1 and 2 stand in 4 of 5; behind the sixth 2 is in 5 of 6, but 1 in 4 of 6.
        Due.tell(x, 0, 1, 2, 7);
        Due.tell(x, 0, 1, 2, 8);
        Due.tell(x, 0, 1, 2);
        Due.tell(x, 0, 1, 2, 9);
        Due.tell(x, 0, 5);
        due.same("1 in 4 of 5", x.common(1), 1);
        due.same("2 in 4 of 5", x.common(2), 1);
        due.same("7 against nothing", x.distance(0, 2), 2);
        due.same("5 against nothing", x.distance(2, 4), 2);
        Due.tell(x, 0, 2, 6);
        due.same("1 in 4 of 6", x.common(1), 0);
        due.same("2 in 5 of 6", x.common(2), 1);
        due.same("1 7 against 1", x.distance(0, 2), 2);
        due.same("5 against 1", x.distance(2, 4), 3);
        due.same("6 against 1", x.distance(5, 2), 3);
        due.same("6 against 1 9", x.distance(3, 5), 5);
    }

    private static void commonThroughout() {
        FaultHeaps x = new FaultHeaps();
        for (int r = 0; r < 4; r++) {
            Due.tell(x, 0, 3, 50 + r, 60 + r, 70 + r);
        }
        due.same("a row of a common one", Due.tell(x, 0, 3), 4);
        due.same("3 in 5 of 5", x.common(3), 1);
        due.same("nothing against 3 frames", x.distance(4, 0), 6);
        due.same("nothing against itself", x.distance(4, 4), 0);
        due.row("common ones stay in the row", x, 4, 3);
        // REPORT 0 is as it was, so only the new one tells that their distance must be told.
        due.same("another one", Due.tell(x, 0, 3), 5);
        due.same("nothing against 3 frames again", x.distance(5, 0), 6);
        due.same("nothing against nothing", x.distance(5, 4), 0);
        // What is left without the common 3 is not folded again.
        due.same("1 3 1", Due.tell(x, 0, 1, 3, 1), 6);
        due.same("nothing against 1 1", x.distance(4, 6), 4);
    }

    private static void countedOnceAReport() {
        FaultHeaps x = new FaultHeaps();
        Due.tell(x, 0, 1, 2, 1, 3, 1);
        Due.tell(x, 0, 6, 1, 4, 1);
        Due.tell(x, 0, 0, 6);
        Due.tell(x, 0, 0, 7);
        Due.tell(x, 0, 0, 8);
        due.same("1 five times in 2 of 5", x.common(1), 0);
        Due.tell(x, 0, 0, 9);
        Due.tell(x, 0, 0, 10);
        Due.tell(x, 0, 0, 11);
        Due.tell(x, 0, 0, 12);
        Due.tell(x, 0, 0, 13);
        due.same("an unknown one in 8 of 10", x.common(0), 0);
        due.same("none is common", x.count(5), 0);
        due.same("unknown ones are not left out", x.distance(1, 2), 7);
    }

    private static void wrongOnes() {
        FaultHeaps x = Due.evenOnes(5);
        due.same("distance(0, 0)", x.distance(0, 0), 0);
        due.same("distance(0, 5)", x.distance(0, 5), -1);
        due.same("distance(5, 0)", x.distance(5, 0), -1);
        due.same("distance(5, 5)", x.distance(5, 5), -1);
        due.same("distance(-1, 0)", x.distance(-1, 0), -1);
        due.same("distance(0, -1)", x.distance(0, -1), -1);
        due.same("distance(0, 40)", x.distance(0, 40), -1);
        due.same("common(-1)", x.common(-1), 0);
        due.same("common(501)", x.common(501), 0);
        due.same("common(500)", x.common(500), 0);
        due.same("common(most int)", x.common(Integer.MAX_VALUE), 0);
        FaultHeaps y = new FaultHeaps();
        for (int r = 0; r < 5; r++) {
            Due.tell(y, 0, 500, 1 + r);
        }
        due.same("500 in 5 of 5", y.common(500), 1);
    }
}
