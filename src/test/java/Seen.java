/** What an object shows of itself, as a text: a refused call must leave it the same. */
final class Seen {
    private Seen() {
    }

    static String of(FaultHeaps x) {
        StringBuilder seen = new StringBuilder("counts");
        for (int what = 0; what <= 7; what++) {
            seen.append(' ').append(x.count(what));
        }
        seen.append(", cost ").append(x.cost(0, FaultHeaps.NONE)).append(", heaps and fixes");
        int reports = x.count(0);
        for (int r = 0; r < reports; r++) {
            seen.append(' ').append(x.heap(r)).append('/').append(Due.look(x, r, 2));
        }
        seen.append(", mark");
        for (int k = 0; k < 3; k++) {
            seen.append(' ').append(x.signed(k));
        }
        return seen.toString();
    }
}
