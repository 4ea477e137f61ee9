import java.util.ArrayList;
import java.util.Arrays;
import java.util.List;

/**
 * The whole face in its plainest form: it holds what the document says is held, and searches anew at every call.
 * Helps the tests, and is none itself.
 */
final class Model {
    private static final int NONE = -1;
    private static final int[][] MAY_BE = {{0, 4095}, {0, 127}, {0, 127}, {0, 4095}, {0, 4095}, {0, 4095}, {0, 4095},
        {0, (1 << 25) - 1}, {1, 12}, {1, 24}, {1, 24}, {1, 3}, {0, 1000}, {0, 1000}, {0, 1000}, {0, 1000}, {0, 1000},
        {0, 1000}};

    private final Oracle setup = new Oracle();
    private final List<Integer> draft = new ArrayList<>();
    private int[] attempted = {};
    private int[] line = {};
    private int lineCost = NONE;
    private int[] strongOnes = {};
    private List<int[]> faults = List.of();

    int note(int pitch) {
        if (pitch < 0 || pitch > 127 || draft.size() == 45) {
            return NONE;
        }
        draft.add(pitch);
        return draft.size();
    }

    private int[] takeDraft() {
        int[] notes = draft.stream().mapToInt(Integer::intValue).toArray();
        draft.clear();
        return notes;
    }

    int give() {
        int size = draft.size();
        if (setup.given.size() == 3 || size < 2 || size > 12 || told(1) != 0 && told(1) != size) {
            return NONE;
        }
        setup.given.add(takeDraft());
        return setup.given.size() - 1;
    }

    int attempt() {
        attempted = takeDraft();
        return attempted.length;
    }

    boolean drop() {
        if (setup.given.isEmpty()) {
            return false;
        }
        setup.given.remove(setup.given.size() - 1);
        return true;
    }

    boolean species(int k, boolean above) {
        if (k != 1 && k != 2 && k != 4) {
            return false;
        }
        setup.k = k;
        setup.above = above;
        return true;
    }

    boolean rule(int rule, boolean on) {
        if (rule < 0 || rule > 10) {
            return false;
        }
        setup.on[rule] = on;
        return true;
    }

    boolean number(int which, int v) {
        if (which < 0 || which > 17 || v < MAY_BE[which][0] || v > MAY_BE[which][1]) {
            return false;
        }
        setup.numbers[which] = v;
        return true;
    }

    int setting(int which) {
        return which < 0 || which > 17 ? NONE : setup.numbers[which];
    }

    int choice() {
        int size = setup.choice().length;
        return size > 8 ? NONE : size;
    }

    private boolean cannotSearch() {
        return setup.given.isEmpty() || choice() == NONE;
    }

    int solve() {
        if (cannotSearch()) {
            return NONE;
        }
        LongOracle search = new LongOracle(setup);
        line = search.line();
        lineCost = search.least();
        strongOnes = new int[line.length == 0 ? 0 : told(1)];
        for (int i = 0; i < strongOnes.length; i++) {
            strongOnes[i] = line[i * setup.k];
        }
        return line.length == 0 ? 0 : 1;
    }

    int found(int i) {
        return i < 0 || i >= line.length ? NONE : line[i];
    }

    int cost() {
        return lineCost;
    }

    long count() {
        return cannotSearch() ? NONE : new LongOracle(setup).count();
    }

    long ties() {
        return cannotSearch() ? NONE : new LongOracle(setup).ties();
    }

    int reach() {
        if (cannotSearch()) {
            return NONE;
        }
        boolean[] on = setup.on.clone();
        setup.on[9] = false;
        setup.on[10] = false;
        int longest = new LongOracle(setup).longest();
        setup.on = on;
        return longest;
    }

    int keep() {
        if (line.length == 0 || setup.given.size() == 3 || setup.given.isEmpty() || told(1) != strongOnes.length) {
            return NONE;
        }
        setup.given.add(strongOnes.clone());
        return setup.given.size() - 1;
    }

    int judge() {
        if (setup.given.isEmpty() || attempted.length != told(2)) {
            return NONE;
        }
        faults = setup.faults(attempted, attempted.length);
        return faults.size();
    }

    int fault(int k, int what) {
        boolean is = k >= 0 && k < faults.size() && k < 200 && what >= 0 && what < 3;
        return is ? faults.get(k)[what] : NONE;
    }

    int tried() {
        return setup.given.isEmpty() || attempted.length != told(2) ? NONE : setup.cost(attempted);
    }

    int told(int what) {
        int n = setup.given.isEmpty() ? 0 : setup.given.get(0).length;
        int total = n == 0 ? 0 : setup.total();
        int[] all = {setup.given.size(), n, total, draft.size(), attempted.length, line.length};
        return what < 0 || what >= all.length ? NONE : all[what];
    }

    /** Whether a search would look at more beginnings than a test has time for. */
    boolean isDearToSearch() {
        int window = Math.min(4, told(2));
        return !cannotSearch() && Math.pow(choice(), window) * told(2) > 5000;
    }

    @Override
    public String toString() {
        return "given " + Arrays.deepToString(setup.given.toArray()) + ", numbers " + Arrays.toString(setup.numbers)
            + ", rules " + Arrays.toString(setup.on) + ", K " + setup.k + (setup.above ? " above" : " below");
    }
}
