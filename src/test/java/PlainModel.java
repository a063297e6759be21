import java.util.ArrayList;
import java.util.Arrays;
import java.util.Collections;
import java.util.List;
import java.util.TreeSet;

/**
 * The document in its slowest form, to hold the class against: each change is
 * tried on a copy of the HEAPS, and its COST is told anew over all pairs.
 */
final class PlainModel {
    private final List<Integer> parents = new ArrayList<>(List.of(-1));
    private final List<List<Integer>> rows = new ArrayList<>();
    private final List<Integer> versions = new ArrayList<>();
    private final List<Integer> fixes = new ArrayList<>();
    private final int[][] told = new int[40][40]; // 1 MUST, -1 NOT
    private List<TreeSet<Integer>> heaps = new ArrayList<>();
    private int[][] distances = new int[0][0];
    private List<Integer> row = new ArrayList<>();
    private List<Integer> latest = List.of();
    private int t = 6;
    private int changes = 0;

    int frame(int f) {
        if (f < 0 || f > 500 || row.size() == 12) {
            return -1;
        }
        row.add(f);
        return row.size();
    }

    int version(int from) {
        if (!isVersion(from) || parents.size() == 30) {
            return -1;
        }
        parents.add(from);
        return parents.size() - 1;
    }

    int report(int version) {
        if (row.isEmpty() || !isVersion(version) || rows.size() == 40) {
            return -1;
        }
        rows.add(folded(row));
        versions.add(version);
        fixes.add(-1);
        row = new ArrayList<>();
        int number = rows.size() - 1;
        heaps.add(new TreeSet<>(List.of(number)));
        tellDistances();
        settle();
        return number;
    }

    boolean pair(int a, int b, boolean together) {
        if (!areTwo(a, b)) {
            return false;
        }
        told[a][b] = together ? 1 : -1;
        told[b][a] = told[a][b];
        settle();
        return true;
    }

    boolean free(int a, int b) {
        if (!areTwo(a, b) || told[a][b] == 0) {
            return false;
        }
        told[a][b] = 0;
        told[b][a] = 0;
        settle();
        return true;
    }

    boolean mark(int wanted) {
        if (wanted < 0 || wanted > 40) {
            return false;
        }
        t = wanted;
        settle();
        return true;
    }

    int resettle() {
        heaps = new ArrayList<>();
        for (int r = 0; r < rows.size(); r++) {
            heaps.add(new TreeSet<>(List.of(r)));
        }
        settle();
        return heaps.size();
    }

    int distance(int a, int b) {
        return isReport(a) && isReport(b) ? distances[a][b] : -1;
    }

    int heap(int r) {
        return isReport(r) ? heapOf(heaps, r).first() : -1;
    }

    int cost(int a, int b) {
        if (b == -1) {
            return costOf(heaps);
        }
        return areTwo(a, b) ? costOf(a, b, heapOf(heaps, a).contains(b)) : -1;
    }

    int row(int r, int k) {
        return isReport(r) && k >= 0 && k < rows.get(r).size() ? rows.get(r).get(k) : -1;
    }

    int common(int f) {
        int having = 0;
        for (List<Integer> one : rows) {
            having += one.contains(f) ? 1 : 0;
        }
        return f > 0 && rows.size() >= 5 && having / (double) rows.size() >= 0.8 - 1e-9 ? 1 : 0;
    }

    int sign(int r) {
        if (!isReport(r)) {
            return -1;
        }
        TreeSet<Integer> frames = new TreeSet<>(rows.get(r));
        frames.remove(0);
        List<Integer> sorted = new ArrayList<>(frames);
        for (int size = 0; size <= 3; size++) {
            List<Integer> found = firstMark(sorted, size, new ArrayList<>(), 0, heapOf(heaps, r));
            if (found != null) {
                latest = found;
                return size;
            }
        }
        return -1;
    }

    int signed(int k) {
        return k >= 0 && k < latest.size() ? latest.get(k) : -1;
    }

    boolean fix(int r, int version) {
        if (!isReport(r) || !isVersion(version)) {
            return false;
        }
        fixes.set(r, version);
        return true;
    }

    long look(int r, int what) {
        if (!isReport(r) || what < 0 || what > 4) {
            return Due.THROWN;
        }
        int[] all = {versions.get(r), rows.get(r).size(), fixes.get(r), cameBack(r) ? 1 : 0, heapOf(heaps, r).size()};
        return all[what];
    }

    int behind(int version, int of) {
        if (!isVersion(version) || !isVersion(of)) {
            return -1;
        }
        for (int v = version; v != -1; v = parents.get(v)) {
            if (v == of) {
                return 1;
            }
        }
        return 0;
    }

    int count(int what) {
        int common = 0;
        for (int f = 0; f <= 500; f++) {
            common += common(f);
        }
        int back = 0;
        for (int r = 0; r < rows.size(); r++) {
            back += cameBack(r) ? 1 : 0;
        }
        int[] all = {rows.size(), heaps.size(), parents.size(), t, row.size(), common, changes, back};
        return what >= 0 && what < all.length ? all[what] : -1;
    }

    private boolean isReport(int r) {
        return r >= 0 && r < rows.size();
    }

    private boolean areTwo(int a, int b) {
        return isReport(a) && isReport(b) && a != b;
    }

    private boolean isVersion(int v) {
        return v >= 0 && v < parents.size();
    }

    private boolean cameBack(int r) {
        for (int other : heapOf(heaps, r)) {
            if (fixes.get(other) != -1 && behind(versions.get(r), fixes.get(other)) == 1) {
                return true;
            }
        }
        return false;
    }

    private static List<Integer> folded(List<Integer> whole) {
        for (int part = 1; part <= 3; part++) {
            for (int i = 0; i + 2 * part <= whole.size(); i++) {
                if (whole.subList(i, i + part).equals(whole.subList(i + part, i + 2 * part))) {
                    List<Integer> less = new ArrayList<>(whole.subList(0, i));
                    less.addAll(whole.subList(i + part, whole.size()));
                    return folded(less);
                }
            }
        }
        return new ArrayList<>(whole);
    }

    private void tellDistances() {
        List<List<Integer>> bare = new ArrayList<>();
        for (List<Integer> one : rows) {
            List<Integer> kept = new ArrayList<>(one);
            kept.removeIf(f -> common(f) == 1);
            bare.add(kept);
        }
        distances = new int[rows.size()][rows.size()];
        for (int a = 0; a < rows.size(); a++) {
            for (int b = 0; b < rows.size(); b++) {
                int[][] known = new int[13][13];
                for (int[] line : known) {
                    Arrays.fill(line, -1);
                }
                distances[a][b] = turning(bare.get(a), bare.get(b), 0, 0, known);
            }
        }
    }

    private static int turning(List<Integer> from, List<Integer> to, int i, int j, int[][] known) {
        if (i == from.size() && j == to.size()) {
            return 0;
        }
        if (known[i][j] >= 0) {
            return known[i][j];
        }
        int best = Integer.MAX_VALUE;
        if (i < from.size()) {
            best = Math.min(best, (from.get(i) == 0 ? 1 : 2) + turning(from, to, i + 1, j, known));
        }
        if (j < to.size()) {
            best = Math.min(best, (to.get(j) == 0 ? 1 : 2) + turning(from, to, i, j + 1, known));
        }
        if (i < from.size() && j < to.size()) {
            int f = from.get(i);
            int g = to.get(j);
            int change = f == g ? 0 : f == 0 || g == 0 ? 2 : 3;
            best = Math.min(best, change + turning(from, to, i + 1, j + 1, known));
        }
        known[i][j] = best;
        return best;
    }

    private static TreeSet<Integer> heapOf(List<TreeSet<Integer>> all, int r) {
        for (TreeSet<Integer> heap : all) {
            if (heap.contains(r)) {
                return heap;
            }
        }
        throw new IllegalStateException("a report without a heap");
    }

    private int costOf(int a, int b, boolean together) {
        int d = distances[a][b];
        if (together) {
            return (d > t ? d - t : 0) + (told[a][b] == -1 ? 1000 : 0);
        }
        return (d < t ? t - d : 0) + (told[a][b] == 1 ? 1000 : 0);
    }

    private int costOf(List<TreeSet<Integer>> all) {
        int[] number = new int[rows.size()];
        for (int h = 0; h < all.size(); h++) {
            for (int r : all.get(h)) {
                number[r] = h;
            }
        }
        int sum = 0;
        for (int a = 0; a < rows.size(); a++) {
            for (int b = a + 1; b < rows.size(); b++) {
                sum += costOf(a, b, number[a] == number[b]);
            }
        }
        return sum;
    }

    private void settle() {
        while (true) {
            int now = costOf(heaps);
            List<TreeSet<Integer>> best = null;
            int least = now;
            for (List<TreeSet<Integer>> changed : changesInOrder()) {
                int cost = costOf(changed);
                if (cost < least) {
                    least = cost;
                    best = changed;
                }
            }
            if (best == null) {
                return;
            }
            heaps = best;
            changes++;
        }
    }

    private List<List<TreeSet<Integer>>> changesInOrder() {
        heaps.sort((one, other) -> Integer.compare(one.first(), other.first()));
        List<List<TreeSet<Integer>>> all = new ArrayList<>();
        for (int r = 0; r < rows.size(); r++) {
            TreeSet<Integer> own = heapOf(heaps, r);
            for (TreeSet<Integer> heap : heaps) {
                if (heap != own) {
                    all.add(moved(r, heap.first()));
                }
            }
            if (own.size() > 1) {
                all.add(moved(r, -1));
            }
        }
        for (int one = 0; one < heaps.size(); one++) {
            for (int other = one + 1; other < heaps.size(); other++) {
                all.add(melted(one, other));
            }
        }
        return all;
    }

    private List<TreeSet<Integer>> copied() {
        List<TreeSet<Integer>> copy = new ArrayList<>();
        for (TreeSet<Integer> heap : heaps) {
            copy.add(new TreeSet<>(heap));
        }
        return copy;
    }

    private List<TreeSet<Integer>> moved(int r, int beside) {
        List<TreeSet<Integer>> copy = copied();
        heapOf(copy, r).remove(r);
        if (beside == -1) {
            copy.add(new TreeSet<>(Collections.singleton(r)));
        } else {
            heapOf(copy, beside).add(r);
        }
        copy.removeIf(TreeSet::isEmpty);
        return copy;
    }

    private List<TreeSet<Integer>> melted(int one, int other) {
        List<TreeSet<Integer>> copy = copied();
        copy.get(one).addAll(copy.remove(other));
        return copy;
    }

    private List<Integer> firstMark(List<Integer> sorted, int size, List<Integer> chosen, int from, TreeSet<Integer> heap) {
        if (chosen.size() == size) {
            for (int r = 0; r < rows.size(); r++) {
                if (rows.get(r).containsAll(chosen) != heap.contains(r)) {
                    return null;
                }
            }
            return chosen;
        }
        for (int k = from; k < sorted.size(); k++) {
            List<Integer> more = new ArrayList<>(chosen);
            more.add(sorted.get(k));
            List<Integer> found = firstMark(sorted, size, more, k + 1, heap);
            if (found != null) {
                return found;
            }
        }
        return null;
    }
}
