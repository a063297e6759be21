import java.util.ArrayList;
import java.util.HashMap;
import java.util.List;
import java.util.Map;
import java.util.PriorityQueue;

/**
 * Promise 9, by its words alone: the least cost of turning one ROW into the
 * other is that of the cheapest way of single steps, whatever ROWS lie between
 * them. All FOLDED ROWS of up to 4 FRAMES over 0, 1, 2 are held against each other.
 */
public final class TurningTest {
    private static final int LONGEST = 4;
    // A way may go through longer ROWS and through a FRAME that stands in neither.
    private static final int LONGEST_BETWEEN = 5;
    private static final int LAST_FRAME = 2;
    private static final int LAST_FRAME_BETWEEN = 3;

    /** A ROW on the way, with what the way has cost up to it. */
    private record Step(List<Integer> row, int cost) {
    }

    public static void main(String[] args) {
        Due due = new Due();
        List<List<Integer>> rows = foldedRows();
        due.same("folded rows of 1, 2, 3 and 4 frames", rows.size(), 3 + 6 + 12 + 18);
        for (List<Integer> from : rows) {
            Map<List<Integer>, Integer> least = leastFrom(from);
            for (List<Integer> to : rows) {
                due.same(from + " into " + to, distance(from, to), least.get(to));
            }
        }
        due.end("TurningTest");
    }

    private static int distance(List<Integer> from, List<Integer> to) {
        FaultHeaps x = new FaultHeaps();
        tell(x, from);
        tell(x, to);
        return x.distance(0, 1);
    }

    private static void tell(FaultHeaps x, List<Integer> row) {
        for (int f : row) {
            x.frame(f);
        }
        x.report(0);
    }

    private static List<List<Integer>> foldedRows() {
        List<List<Integer>> found = new ArrayList<>();
        gather(new ArrayList<>(), found);
        return found;
    }

    private static void gather(List<Integer> row, List<List<Integer>> found) {
        if (!row.isEmpty()) {
            found.add(row);
        }
        for (int f = 0; f <= LAST_FRAME && row.size() < LONGEST; f++) {
            List<Integer> longer = with(row, row.size(), f);
            if (!endsTwice(longer, 1) && !endsTwice(longer, 2)) {
                gather(longer, found);
            }
        }
    }

    private static boolean endsTwice(List<Integer> row, int part) {
        int n = row.size();
        return n >= 2 * part && row.subList(n - 2 * part, n - part).equals(row.subList(n - part, n));
    }

    private static Map<List<Integer>, Integer> leastFrom(List<Integer> from) {
        Map<List<Integer>, Integer> least = new HashMap<>();
        PriorityQueue<Step> open = new PriorityQueue<>((one, other) -> Integer.compare(one.cost, other.cost));
        open.add(new Step(from, 0));
        while (!open.isEmpty()) {
            Step step = open.poll();
            if (least.putIfAbsent(step.row, step.cost) == null) {
                open.addAll(stepsFrom(step));
            }
        }
        return least;
    }

    private static List<Step> stepsFrom(Step ahead) {
        List<Step> steps = new ArrayList<>();
        List<Integer> row = ahead.row;
        for (int k = 0; k < row.size(); k++) {
            List<Integer> shorter = new ArrayList<>(row);
            int left = shorter.remove(k);
            steps.add(new Step(shorter, ahead.cost + (left == 0 ? 1 : 2)));
            for (int f = 0; f <= LAST_FRAME_BETWEEN; f++) {
                if (f != left) {
                    steps.add(new Step(with(shorter, k, f), ahead.cost + (left == 0 || f == 0 ? 2 : 3)));
                }
            }
        }
        for (int k = 0; k <= row.size() && row.size() < LONGEST_BETWEEN; k++) {
            for (int f = 0; f <= LAST_FRAME_BETWEEN; f++) {
                steps.add(new Step(with(row, k, f), ahead.cost + (f == 0 ? 1 : 2)));
            }
        }
        return steps;
    }

    private static List<Integer> with(List<Integer> row, int k, int f) {
        List<Integer> longer = new ArrayList<>(row);
        longer.add(k, f);
        return longer;
    }
}
