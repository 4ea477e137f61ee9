import java.util.ArrayList;
import java.util.List;

/**
 * The document's rules, costs and searches in their slowest and plainest form: every line is made and looked at
 * as a whole. Helps the tests, and is none itself.
 */
final class Oracle {
    int[] numbers = {2741, 60, 72, 921, 129, 129, 1, 3136, 2, 12, 4, 1, 5, 3, 1, 2, 1, 1};
    boolean[] on = {true, true, true, true, true, true, true, true, true, true, true};
    int k = 1;
    boolean above = true;
    List<int[]> given = new ArrayList<>();

    /** Of the latest search. */
    long count;
    long ties;
    int least;
    int[] line;

    int total() {
        return k * (given.get(0).length - 1) + 1;
    }

    private boolean has(int which, int bit) {
        return (numbers[which] & (1 << bit)) != 0;
    }

    private int cls(int[] p, int j, int g) {
        return Math.abs(p[j] - given.get(g)[j / k]) % 12;
    }

    private boolean strong(int j) {
        return j % k == 0;
    }

    private boolean hardWith(int[] p, int j, int g) {
        return !has(3, cls(p, j, g));
    }

    private boolean hard(int[] p, int j) {
        boolean any = false;
        for (int g = 0; g < given.size(); g++) {
            any |= hardWith(p, j, g);
        }
        return any;
    }

    private static int way(int from, int to) {
        return Integer.signum(to - from);
    }

    private boolean alike(int[] p, int j, int g) {
        int mine = way(p[j - k], p[j]);
        return mine != 0 && mine == way(given.get(g)[j / k - 1], given.get(g)[j / k]);
    }

    private boolean small(int from, int to) {
        int size = Math.abs(to - from);
        return size >= 1 && size <= numbers[8];
    }

    /** The faults of the first notes of a line, as rule, note and given line; of all when the line is whole. */
    List<int[]> faults(int[] p, int size) {
        List<int[]> all = new ArrayList<>();
        int highest = -1;
        for (int j = 0; j < size; j++) {
            highest = Math.max(highest, p[j]);
        }
        boolean seenHighest = false;
        for (int j = 0; j < size; j++) {
            addFaultsWithLines(all, p, j, size);
            addFaultsAlone(all, p, j, size);
            if (on[10] && size == total() && p[j] == highest) {
                if (seenHighest) {
                    all.add(new int[] {10, j, -1});
                }
                seenHighest = true;
            }
        }
        return all;
    }

    /** Whether note j of a beginning of so many breaks a rule, but for rule 10. */
    boolean breaksAt(int[] p, int j, int size) {
        List<int[]> all = new ArrayList<>();
        addFaultsWithLines(all, p, j, size);
        addFaultsAlone(all, p, j, size);
        return !all.isEmpty();
    }

    private void addFaultsWithLines(List<int[]> all, int[] p, int j, int size) {
        boolean move = strong(j) && j > 0;
        if (on[0] && strong(j) && hard(p, j)) {
            all.add(new int[] {0, j, -1});
        }
        for (int g = 0; g < given.size(); g++) {
            if (on[1] && move && cls(p, j, g) == cls(p, j - k, g) && has(4, cls(p, j, g)) && alike(p, j, g)) {
                all.add(new int[] {1, j, g});
            }
        }
        for (int g = 0; g < given.size(); g++) {
            if (on[2] && move && has(4, cls(p, j, g)) && alike(p, j, g) && Math.abs(p[j] - p[j - k]) > numbers[8]) {
                all.add(new int[] {2, j, g});
            }
        }
        for (int g = 0; g < given.size(); g++) {
            int other = given.get(g)[j / k];
            if (on[3] && (above && p[j] < other || !above && p[j] > other)) {
                all.add(new int[] {3, j, g});
            }
        }
        for (int g = 0; g < given.size(); g++) {
            if (on[4] && !strong(j) && j + 1 < size && hardWith(p, j, g)) {
                boolean passing = small(p[j - 1], p[j]) && small(p[j], p[j + 1])
                    && way(p[j - 1], p[j]) == way(p[j], p[j + 1]);
                if (!passing) {
                    all.add(new int[] {4, j, g});
                }
            }
        }
    }

    private void addFaultsAlone(List<int[]> all, int[] p, int j, int size) {
        if (on[5] && j > 0) {
            int leap = Math.abs(p[j] - p[j - 1]);
            if (leap > numbers[9] || leap < 25 && has(7, leap)) {
                all.add(new int[] {5, j, -1});
            }
        }
        if (on[6] && j > 1 && Math.abs(p[j - 1] - p[j - 2]) > numbers[10]) {
            boolean back = small(p[j - 1], p[j]) && way(p[j - 2], p[j - 1]) == -way(p[j - 1], p[j]);
            if (!back) {
                all.add(new int[] {6, j, -1});
            }
        }
        int like = 0;
        for (int i = j - 1; i >= 0 && p[i] == p[j]; i--) {
            like++;
        }
        if (on[7] && like >= numbers[11]) {
            all.add(new int[] {7, j, -1});
        }
        if (on[8] && j == 0 && !has(5, cls(p, 0, 0))) {
            all.add(new int[] {8, 0, -1});
        }
        if (on[9] && size == total() && j == size - 1 && !(has(6, cls(p, j, 0)) && small(p[j - 1], p[j]))) {
            all.add(new int[] {9, j, -1});
        }
    }

    int cost(int[] p) {
        int sum = 0;
        for (int j = 0; j < total(); j++) {
            sum += costAt(p, j);
        }
        return sum;
    }

    /** What note j and the moves to it add to the cost. */
    int costAt(int[] p, int j) {
        int sum = !strong(j) && hard(p, j) ? numbers[17] : 0;
        if (j > 0) {
            int move = Math.abs(p[j] - p[j - 1]);
            sum += (move == 0 ? numbers[12] : 0) + (move > numbers[8] ? numbers[13] : 0) + move * numbers[14];
        }
        for (int g = 0; g < given.size() && j > 0 && strong(j); g++) {
            sum += alike(p, j, g) ? numbers[15] : 0;
            sum += j < total() - 1 && has(4, cls(p, j, g)) ? numbers[16] : 0;
        }
        return sum;
    }

    int[] choice() {
        List<Integer> all = new ArrayList<>();
        for (int p = 0; p < 128; p++) {
            if (p >= numbers[1] && p <= numbers[2] && has(0, p % 12)) {
                all.add(p);
            }
        }
        return all.stream().mapToInt(Integer::intValue).toArray();
    }

    /** Looks at every line over THE CHOICE, lowest first. */
    void search() {
        count = 0;
        ties = 0;
        least = -1;
        line = new int[0];
        make(new int[total()], 0, choice());
    }

    private void make(int[] p, int j, int[] choice) {
        if (j == p.length) {
            look(p);
            return;
        }
        for (int pitch : choice) {
            p[j] = pitch;
            make(p, j + 1, choice);
        }
    }

    private void look(int[] p) {
        if (!faults(p, p.length).isEmpty()) {
            return;
        }
        count++;
        int cost = cost(p);
        if (least == -1 || cost < least) {
            least = cost;
            ties = 0;
            line = p.clone();
        }
        if (cost == least) {
            ties++;
        }
    }

    int reach() {
        boolean[] kept = on.clone();
        on[9] = false;
        on[10] = false;
        int longest = lengthen(new int[total()], 0, choice());
        on = kept;
        return longest;
    }

    private int lengthen(int[] p, int j, int[] choice) {
        int longest = j;
        for (int i = 0; j < p.length && i < choice.length && longest < p.length; i++) {
            p[j] = choice[i];
            if (faults(p, j + 1).isEmpty()) {
                longest = Math.max(longest, lengthen(p, j + 1, choice));
            }
        }
        return longest;
    }
}
