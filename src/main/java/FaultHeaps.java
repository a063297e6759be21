import java.util.Arrays;
import java.util.NoSuchElementException;

/**
 * Reports of faults, put into heaps of the same fault. The words in capitals
 * (ROW, FOLDED, COMMON, DISTANCE, HEAP, T, COST, SETTLED, MARK, CAME BACK) are
 * those of the document.
 */
public final class FaultHeaps {
    public static final int NONE = -1;

    private static final int UNKNOWN = 0;
    private static final int LAST_FRAME = 500;
    private static final int MOST_FRAMES = 12;
    private static final int MOST_VERSIONS = 30;
    private static final int MOST_REPORTS = 40;

    private final ToldRow told;
    private final Versions versions;
    private final Reports reports;
    private final Distances distances;
    private final Heaps heaps;
    private final Marks marks;

    public FaultHeaps() {
        told = new ToldRow();
        versions = new Versions();
        reports = new Reports();
        distances = new Distances();
        heaps = new Heaps();
        marks = new Marks();
    }

    public int frame(int f) {
        return told.put(f);
    }

    public int version(int from) {
        return versions.make(from);
    }

    public int report(int version) {
        if (told.isEmpty() || !versions.has(version) || reports.isFull()) {
            return NONE;
        }
        told.fold();
        int added = reports.add(told, version);
        told.clear();
        distances.renew(reports);
        heaps.addAlone();
        heaps.settle(distances);
        return added;
    }

    public boolean pair(int a, int b, boolean together) {
        if (!reports.hasTwo(a, b)) {
            return false;
        }
        heaps.wish(a, b, together ? Heaps.MUST : Heaps.NOT);
        heaps.settle(distances);
        return true;
    }

    public boolean free(int a, int b) {
        if (!reports.hasTwo(a, b) || !heaps.hasWish(a, b)) {
            return false;
        }
        heaps.wish(a, b, Heaps.NOTHING_TOLD);
        heaps.settle(distances);
        return true;
    }

    public boolean mark(int t) {
        if (!heaps.setT(t)) {
            return false;
        }
        heaps.settle(distances);
        return true;
    }

    public int resettle() {
        heaps.partAll();
        heaps.settle(distances);
        return heaps.howMany();
    }

    public int distance(int a, int b) {
        return reports.has(a) && reports.has(b) ? distances.between(a, b) : NONE;
    }

    public int heap(int report) {
        return reports.has(report) ? heaps.leastBeside(report) : NONE;
    }

    public int cost(int a, int b) {
        if (b == NONE) {
            return heaps.costOfAll(distances);
        }
        return reports.hasTwo(a, b) ? heaps.costOfPair(a, b, distances) : NONE;
    }

    public int row(int report, int k) {
        return reports.hasFrame(report, k) ? reports.frameAt(report, k) : NONE;
    }

    public int common(int f) {
        return reports.isCommon(f) ? 1 : 0;
    }

    public int sign(int report) {
        return reports.has(report) ? marks.tell(reports, heaps.setBeside(report)) : NONE;
    }

    public int signed(int k) {
        return marks.latestAt(k);
    }

    public boolean fix(int report, int version) {
        if (!reports.has(report) || !versions.has(version)) {
            return false;
        }
        reports.setFixedAt(report, version);
        return true;
    }

    public int look(int report, int what) throws NoSuchElementException {
        if (!reports.has(report)) {
            throw new NoSuchElementException("no such report");
        }
        switch (what) {
            case 0:
                return reports.versionOf(report);
            case 1:
                return reports.lengthOf(report);
            case 2:
                return reports.fixedAt(report);
            case 3:
                return cameBack(report) ? 1 : 0;
            case 4:
                return heaps.sizeBeside(report);
            default:
                throw new NoSuchElementException("no such what");
        }
    }

    public int behind(int version, int of) {
        if (!versions.has(version) || !versions.has(of)) {
            return NONE;
        }
        return versions.isOrIsBehind(version, of) ? 1 : 0;
    }

    public int count(int what) {
        switch (what) {
            case 0:
                return reports.howMany();
            case 1:
                return heaps.howMany();
            case 2:
                return versions.howMany();
            case 3:
                return heaps.getT();
            case 4:
                return told.howMany();
            case 5:
                return reports.howManyCommon();
            case 6:
                return heaps.changesDone();
            case 7:
                return howManyCameBack();
            default:
                return NONE;
        }
    }

    private boolean cameBack(int report) {
        int version = reports.versionOf(report);
        for (int other = 0; other < reports.howMany(); other++) {
            int fixed = reports.fixedAt(other);
            if (fixed != NONE && heaps.areTogether(report, other) && versions.isOrIsBehind(version, fixed)) {
                return true;
            }
        }
        return false;
    }

    private int howManyCameBack() {
        int back = 0;
        for (int r = 0; r < reports.howMany(); r++) {
            if (cameBack(r)) {
                back++;
            }
        }
        return back;
    }

    /** The ROW that is told and is no REPORT yet. */
    private static final class ToldRow {
        private static final int LONGEST_PART = 3;

        private final int[] frames = new int[MOST_FRAMES];
        private int length = 0;

        int put(int f) {
            if (f < UNKNOWN || f > LAST_FRAME || length >= MOST_FRAMES) {
                return NONE;
            }
            frames[length] = f;
            length++;
            return length;
        }

        boolean isEmpty() {
            return length == 0;
        }

        int howMany() {
            return length;
        }

        int at(int k) {
            return frames[k];
        }

        void clear() {
            length = 0;
        }

        void fold() {
            // Each fold takes a FRAME at least, so there are fewer folds than FRAMES.
            for (int done = 0; done < MOST_FRAMES; done++) {
                if (!foldOnce()) {
                    return;
                }
            }
        }

        private boolean foldOnce() {
            for (int part = 1; part <= LONGEST_PART; part++) {
                for (int start = 0; start + 2 * part <= length; start++) {
                    if (standsTwice(start, part)) {
                        cut(start, part);
                        return true;
                    }
                }
            }
            return false;
        }

        private boolean standsTwice(int start, int part) {
            for (int k = start; k < start + part; k++) {
                if (frames[k] != frames[k + part]) {
                    return false;
                }
            }
            return true;
        }

        private void cut(int start, int part) {
            for (int k = start; k + part < length; k++) {
                frames[k] = frames[k + part];
            }
            length -= part;
        }
    }

    /** The VERSIONS, each made from one that was there. */
    private static final class Versions {
        // Bit w of lines[v]: v is w or behind it. 30 VERSIONS fit into an int.
        private final int[] lines = new int[MOST_VERSIONS];
        private int number = 1;

        Versions() {
            lines[0] = 1;
        }

        boolean has(int version) {
            return version >= 0 && version < number;
        }

        int howMany() {
            return number;
        }

        int make(int from) {
            if (!has(from) || number >= MOST_VERSIONS) {
                return NONE;
            }
            int made = number;
            lines[made] = lines[from] | (1 << made);
            number++;
            return made;
        }

        boolean isOrIsBehind(int version, int of) {
            return ((lines[version] >> of) & 1) == 1;
        }
    }

    /** The REPORTS with their FOLDED ROWS, VERSIONS and FIXES. */
    private static final class Reports {
        private static final int FEWEST_FOR_COMMON = 5;

        private final int[][] rows = new int[MOST_REPORTS][MOST_FRAMES];
        private final int[] lengths = new int[MOST_REPORTS];
        private final int[] madeIn = new int[MOST_REPORTS];
        private final int[] fixedIn = new int[MOST_REPORTS];
        // Bit r of holders[f]: FRAME f stands in the ROW of REPORT r. 40 REPORTS fit into a long.
        private final long[] holders = new long[LAST_FRAME + 1];
        private int number = 0;

        boolean has(int report) {
            return report >= 0 && report < number;
        }

        boolean hasTwo(int a, int b) {
            return has(a) && has(b) && a != b;
        }

        boolean hasFrame(int report, int k) {
            return has(report) && k >= 0 && k < lengths[report];
        }

        boolean isFull() {
            return number >= MOST_REPORTS;
        }

        int howMany() {
            return number;
        }

        int add(ToldRow folded, int version) {
            int added = number;
            lengths[added] = folded.howMany();
            for (int k = 0; k < folded.howMany(); k++) {
                int f = folded.at(k);
                rows[added][k] = f;
                holders[f] |= 1L << added;
            }
            madeIn[added] = version;
            fixedIn[added] = NONE;
            number++;
            return added;
        }

        int frameAt(int report, int k) {
            return rows[report][k];
        }

        int lengthOf(int report) {
            return lengths[report];
        }

        int versionOf(int report) {
            return madeIn[report];
        }

        int fixedAt(int report) {
            return fixedIn[report];
        }

        void setFixedAt(int report, int version) {
            fixedIn[report] = version;
        }

        long holdersOf(int f) {
            return holders[f];
        }

        boolean isCommon(int f) {
            if (f <= UNKNOWN || f > LAST_FRAME || number < FEWEST_FOR_COMMON) {
                return false;
            }
            return 5 * Long.bitCount(holders[f]) >= 4 * number;
        }

        int howManyCommon() {
            int found = 0;
            for (int f = UNKNOWN + 1; f <= LAST_FRAME; f++) {
                if (isCommon(f)) {
                    found++;
                }
            }
            return found;
        }
    }

    /** The DISTANCES of all REPORTS, with COMMON as it was when they were renewed. */
    private static final class Distances {
        // The ROWS without COMMON ones.
        private final int[][] bare = new int[MOST_REPORTS][MOST_FRAMES];
        private final int[] bareLengths = new int[MOST_REPORTS];
        private final boolean[] isOther = new boolean[MOST_REPORTS];
        private final int[][] known = new int[MOST_REPORTS][MOST_REPORTS];
        private final int[][] least = new int[MOST_FRAMES + 1][MOST_FRAMES + 1];

        Distances() {
            // A ROW that is COMMON throughout has length 0, and must count as another one at first.
            Arrays.fill(bareLengths, NONE);
        }

        int between(int a, int b) {
            return known[a][b];
        }

        void renew(Reports reports) {
            int number = reports.howMany();
            for (int r = 0; r < number; r++) {
                isOther[r] = strip(reports, r);
            }
            for (int a = 0; a < number; a++) {
                for (int b = 0; b < a; b++) {
                    if (isOther[a] || isOther[b]) {
                        int told = measure(a, b);
                        known[a][b] = told;
                        known[b][a] = told;
                    }
                }
            }
        }

        /** Answers whether the bare ROW is another one than before. */
        private boolean strip(Reports reports, int report) {
            int[] row = bare[report];
            int kept = 0;
            boolean changed = false;
            for (int k = 0; k < reports.lengthOf(report); k++) {
                int f = reports.frameAt(report, k);
                if (!reports.isCommon(f)) {
                    changed = changed || row[kept] != f;
                    row[kept] = f;
                    kept++;
                }
            }
            changed = changed || kept != bareLengths[report];
            bareLengths[report] = kept;
            return changed;
        }

        private int measure(int a, int b) {
            int[] from = bare[a];
            int[] to = bare[b];
            least[0][0] = 0;
            for (int j = 1; j <= bareLengths[b]; j++) {
                least[0][j] = least[0][j - 1] + costOfOne(to[j - 1]);
            }
            for (int i = 1; i <= bareLengths[a]; i++) {
                int f = from[i - 1];
                least[i][0] = least[i - 1][0] + costOfOne(f);
                for (int j = 1; j <= bareLengths[b]; j++) {
                    int g = to[j - 1];
                    int changed = least[i - 1][j - 1] + costOfChange(f, g);
                    int leftOut = least[i - 1][j] + costOfOne(f);
                    int putIn = least[i][j - 1] + costOfOne(g);
                    least[i][j] = Math.min(changed, Math.min(leftOut, putIn));
                }
            }
            return least[bareLengths[a]][bareLengths[b]];
        }

        private static int costOfOne(int f) {
            return f == UNKNOWN ? 1 : 2;
        }

        private static int costOfChange(int f, int g) {
            if (f == g) {
                return 0;
            }
            return f == UNKNOWN || g == UNKNOWN ? 2 : 3;
        }
    }

    /**
     * The HEAPS. They have numbers 0, 1, .. in the order of the least REPORT in
     * them, so that going through them by number is the document's order.
     */
    private static final class Heaps {
        // What being together costs more than being apart, by what is told of the two.
        static final int MUST = -1000;
        static final int NOT = 1000;
        static final int NOTHING_TOLD = 0;

        private static final int FIRST_T = 6;
        private static final int LAST_T = 40;
        // Each change lessens the COST by 1 at least, and 780 pairs of at most 1048 cost less than this.
        private static final int MOST_CHANGES = 1000000;

        private final int[][] wishes = new int[MOST_REPORTS][MOST_REPORTS];
        private final int[] heapOf = new int[MOST_REPORTS];
        private final int[] leastIn = new int[MOST_REPORTS];
        private final int[] sizes = new int[MOST_REPORTS];
        // One more: a REPORT that goes alone is in a HEAP behind the last one until all are numbered anew.
        private final int[] newNumbers = new int[MOST_REPORTS + 1];
        // joining[r][h]: what it adds to the COST that REPORT r is with the others in HEAP h, not apart from them.
        private final int[][] joining = new int[MOST_REPORTS][MOST_REPORTS];
        private final int[][] melting = new int[MOST_REPORTS][MOST_REPORTS];
        private int reportsNumber = 0;
        private int heapsNumber = 0;
        private int limit = FIRST_T;
        private int changes = 0;
        private int bestAdded = 0;
        private int bestReport = NONE;
        private int bestMelted = NONE;
        private int bestInto = NONE;

        int howMany() {
            return heapsNumber;
        }

        int getT() {
            return limit;
        }

        int changesDone() {
            return changes;
        }

        boolean setT(int t) {
            if (t < 0 || t > LAST_T) {
                return false;
            }
            limit = t;
            return true;
        }

        boolean hasWish(int a, int b) {
            return wishes[a][b] != NOTHING_TOLD;
        }

        void wish(int a, int b, int wanted) {
            wishes[a][b] = wanted;
            wishes[b][a] = wanted;
        }

        boolean areTogether(int a, int b) {
            return heapOf[a] == heapOf[b];
        }

        int leastBeside(int report) {
            return leastIn[heapOf[report]];
        }

        int sizeBeside(int report) {
            return sizes[heapOf[report]];
        }

        /** The REPORTS of one's HEAP as bits. */
        long setBeside(int report) {
            long set = 0L;
            for (int r = 0; r < reportsNumber; r++) {
                if (areTogether(r, report)) {
                    set |= 1L << r;
                }
            }
            return set;
        }

        int costOfPair(int a, int b, Distances distances) {
            int above = distances.between(a, b) - limit;
            int wanted = wishes[a][b];
            if (areTogether(a, b)) {
                return Math.max(above, 0) + Math.max(wanted, 0);
            }
            return Math.max(-above, 0) + Math.max(-wanted, 0);
        }

        int costOfAll(Distances distances) {
            int sum = 0;
            for (int a = 0; a < reportsNumber; a++) {
                for (int b = 0; b < a; b++) {
                    sum += costOfPair(a, b, distances);
                }
            }
            return sum;
        }

        void addAlone() {
            if (reportsNumber < MOST_REPORTS) {
                heapOf[reportsNumber] = heapsNumber;
                reportsNumber++;
                numberAnew();
            }
        }

        void partAll() {
            for (int r = 0; r < reportsNumber; r++) {
                heapOf[r] = r;
            }
            numberAnew();
        }

        void settle(Distances distances) {
            for (int done = 0; done < MOST_CHANGES; done++) {
                weighJoining(distances);
                weighMelting();
                findBest();
                if (bestAdded >= 0) {
                    return;
                }
                doBest();
                changes++;
            }
        }

        private void weighJoining(Distances distances) {
            for (int r = 0; r < reportsNumber; r++) {
                Arrays.fill(joining[r], 0);
                for (int other = 0; other < reportsNumber; other++) {
                    if (other != r) {
                        joining[r][heapOf[other]] += distances.between(r, other) - limit + wishes[r][other];
                    }
                }
            }
        }

        private void weighMelting() {
            for (int h = 0; h < heapsNumber; h++) {
                Arrays.fill(melting[h], 0);
            }
            for (int r = 0; r < reportsNumber; r++) {
                for (int h = 0; h < heapsNumber; h++) {
                    melting[heapOf[r]][h] += joining[r][h];
                }
            }
        }

        /** Goes through all changes in the document's order: a later one must be better, not as good. */
        private void findBest() {
            bestAdded = 0;
            for (int r = 0; r < reportsNumber; r++) {
                findBestMove(r);
            }
            for (int one = 0; one < heapsNumber; one++) {
                for (int other = one + 1; other < heapsNumber; other++) {
                    if (melting[one][other] < bestAdded) {
                        bestAdded = melting[one][other];
                        bestReport = NONE;
                        bestMelted = other;
                        bestInto = one;
                    }
                }
            }
        }

        private void findBestMove(int report) {
            int from = heapOf[report];
            int leaving = -joining[report][from];
            for (int into = 0; into < heapsNumber; into++) {
                if (into != from) {
                    weighMove(report, into, leaving + joining[report][into]);
                }
            }
            if (sizes[from] > 1) {
                weighMove(report, heapsNumber, leaving);
            }
        }

        private void weighMove(int report, int into, int added) {
            if (added < bestAdded) {
                bestAdded = added;
                bestReport = report;
                bestInto = into;
            }
        }

        private void doBest() {
            if (bestReport != NONE) {
                heapOf[bestReport] = bestInto;
            } else {
                for (int r = 0; r < reportsNumber; r++) {
                    if (heapOf[r] == bestMelted) {
                        heapOf[r] = bestInto;
                    }
                }
            }
            numberAnew();
        }

        private void numberAnew() {
            Arrays.fill(newNumbers, NONE);
            heapsNumber = 0;
            for (int r = 0; r < reportsNumber; r++) {
                int old = heapOf[r];
                if (newNumbers[old] == NONE) {
                    newNumbers[old] = heapsNumber;
                    leastIn[heapsNumber] = r;
                    sizes[heapsNumber] = 0;
                    heapsNumber++;
                }
                heapOf[r] = newNumbers[old];
                sizes[heapOf[r]]++;
            }
        }
    }

    /** Finds the MARK of a HEAP and keeps the latest one that was told. */
    private static final class Marks {
        private static final int MOST_IN_MARK = 3;

        // The FRAMES that stand in all ROWS of the HEAP, the least number first, and who has them.
        private final int[] shared = new int[MOST_FRAMES];
        private final long[] holders = new long[MOST_FRAMES];
        private int sharedNumber = 0;
        private final int[] latest = new int[MOST_IN_MARK];
        private int latestLength = 0;

        int latestAt(int k) {
            return k >= 0 && k < latestLength ? latest[k] : NONE;
        }

        /** FRAMES are a MARK if those who have them all are just the REPORTS of the HEAP. */
        int tell(Reports reports, long heap) {
            long all = (1L << reports.howMany()) - 1L;
            if (heap == all) {
                latestLength = 0;
                return latestLength;
            }
            gatherShared(reports, heap);
            return findOne(heap) || findTwo(heap) || findThree(heap) ? latestLength : NONE;
        }

        private void gatherShared(Reports reports, long heap) {
            sharedNumber = 0;
            for (int f = UNKNOWN + 1; f <= LAST_FRAME && sharedNumber < MOST_FRAMES; f++) {
                long having = reports.holdersOf(f);
                if ((having & heap) == heap) {
                    shared[sharedNumber] = f;
                    holders[sharedNumber] = having;
                    sharedNumber++;
                }
            }
        }

        private boolean findOne(long heap) {
            for (int i = 0; i < sharedNumber; i++) {
                if (holders[i] == heap) {
                    latest[0] = shared[i];
                    latestLength = 1;
                    return true;
                }
            }
            return false;
        }

        private boolean findTwo(long heap) {
            for (int i = 0; i < sharedNumber; i++) {
                for (int j = i + 1; j < sharedNumber; j++) {
                    if ((holders[i] & holders[j]) == heap) {
                        latest[0] = shared[i];
                        latest[1] = shared[j];
                        latestLength = 2;
                        return true;
                    }
                }
            }
            return false;
        }

        private boolean findThree(long heap) {
            for (int i = 0; i < sharedNumber; i++) {
                for (int j = i + 1; j < sharedNumber; j++) {
                    for (int k = j + 1; k < sharedNumber; k++) {
                        if ((holders[i] & holders[j] & holders[k]) == heap) {
                            latest[0] = shared[i];
                            latest[1] = shared[j];
                            latest[2] = shared[k];
                            latestLength = 3;
                            return true;
                        }
                    }
                }
            }
            return false;
        }
    }
}
