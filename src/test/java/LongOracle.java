import java.util.Arrays;
import java.util.HashMap;
import java.util.Map;

/**
 * Searches lines of any length another way than the class does: note by note forwards, over what the last four notes
 * are (no rule and no cost looks further back), the highest note so far, and whether it came twice. Helps the tests,
 * and is none itself.
 */
final class LongOracle {
    private static final int WINDOW = 4;

    /** All beginnings that end alike: the lowest of least cost, and how many there are. */
    private static final class Beginnings {
        private int least = Integer.MAX_VALUE;
        private int[] line = {};
        private long all = 0;
        private long leastOnes = 0;

        private void join(int cost, int[] notes, long count, long ties) {
            all += count;
            if (cost > least) {
                return;
            }
            leastOnes = cost < least ? ties : leastOnes + ties;
            if (cost < least || Arrays.compare(notes, line) < 0) {
                line = notes;
            }
            least = cost;
        }
    }

    private final Oracle oracle;
    private Map<String, Beginnings> layer = new HashMap<>();
    private final Beginnings whole = new Beginnings();
    private int longest = 0;

    LongOracle(Oracle oracle) {
        this.oracle = oracle;
        Beginnings empty = new Beginnings();
        empty.join(0, new int[0], 1, 1);
        layer.put("", empty);
        for (int j = 0; j < oracle.total(); j++) {
            extend(j);
            longest = layer.isEmpty() ? longest : j + 1;
        }
        for (Beginnings each : layer.values()) {
            if (!oracle.on[10] || comesOnce(each.line)) {
                whole.join(each.least, each.line, each.all, each.leastOnes);
            }
        }
    }

    private void extend(int j) {
        Map<String, Beginnings> next = new HashMap<>();
        for (Beginnings each : layer.values()) {
            for (int pitch : oracle.choice()) {
                int[] notes = Arrays.copyOf(each.line, j + 1);
                notes[j] = pitch;
                boolean bad = oracle.breaksAt(notes, j, j + 1) || j > 0 && oracle.breaksAt(notes, j - 1, j + 1);
                if (!bad) {
                    next.computeIfAbsent(ending(notes), key -> new Beginnings())
                        .join(each.least + oracle.costAt(notes, j), notes, each.all, each.leastOnes);
                }
            }
        }
        layer = next;
    }

    private static int highest(int[] notes) {
        return Arrays.stream(notes).max().orElse(-1);
    }

    private static boolean comesOnce(int[] notes) {
        int highest = highest(notes);
        return Arrays.stream(notes).filter(pitch -> pitch == highest).count() == 1;
    }

    private String ending(int[] notes) {
        int[] last = Arrays.copyOfRange(notes, Math.max(0, notes.length - WINDOW), notes.length);
        return Arrays.toString(last) + (oracle.on[10] ? highest(notes) + " " + comesOnce(notes) : "");
    }

    long count() {
        return whole.all;
    }

    long ties() {
        return whole.leastOnes;
    }

    int least() {
        return whole.line.length == 0 ? -1 : whole.least;
    }

    int[] line() {
        return whole.line;
    }

    /** How many notes the longest beginning has that breaks none of the rules on but rule 10. */
    int longest() {
        return longest;
    }
}
