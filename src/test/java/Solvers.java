/**
 * Makes solvers and tells what they hold; helps the tests, and is none itself. Tests extend it for its plain names,
 * as nothing can be imported from a class without a package.
 */
abstract class Solvers {
    static final int NONE = SpeciesSolver.NONE;
    static final int RULES = 11;
    static final int NUMBERS = 18;
    /** Of no use as a pitch, an index or a number of anything. */
    static final int[] FAR = {Integer.MIN_VALUE, Integer.MIN_VALUE + 1, Integer.MAX_VALUE};

    static void write(SpeciesSolver x, int... pitches) {
        for (int pitch : pitches) {
            x.note(pitch);
        }
    }

    static void writeLike(SpeciesSolver x, int pitch, int times) {
        for (int i = 0; i < times; i++) {
            x.note(pitch);
        }
    }

    static void attempt(SpeciesSolver x, int... pitches) {
        write(x, pitches);
        x.attempt();
    }

    /** One line is given, all else is as at first. */
    static SpeciesSolver given(int... pitches) {
        SpeciesSolver x = new SpeciesSolver();
        write(x, pitches);
        x.give();
        return x;
    }

    /** One rule is on (none for NONE), and lines of n notes each are given, written as one row. */
    static SpeciesSolver only(int rule, int species, int n, int... lines) {
        SpeciesSolver x = new SpeciesSolver();
        onlyRule(x, rule);
        x.species(species, true);
        for (int i = 0; i < lines.length; i++) {
            x.note(lines[i]);
            if (i % n == n - 1) {
                x.give();
            }
        }
        return x;
    }

    static void onlyRule(SpeciesSolver x, int rule) {
        for (int r = 0; r < RULES; r++) {
            x.rule(r, r == rule);
        }
    }

    static void noCosts(SpeciesSolver x) {
        for (int which = 12; which < NUMBERS; which++) {
            x.number(which, 0);
        }
    }

    static void range(SpeciesSolver x, int low, int high) {
        x.number(1, low);
        x.number(2, high);
    }

    /** The line found. */
    static String line(SpeciesSolver x) {
        StringBuilder b = new StringBuilder();
        for (int i = 0; i < x.told(5); i++) {
            b.append(i == 0 ? "" : " ").append(x.found(i));
        }
        return b.toString();
    }

    /** The faults told, each as rule, note and given line; so many at most. */
    static String faults(SpeciesSolver x, int most) {
        StringBuilder b = new StringBuilder();
        for (int k = 0; k < most && x.fault(k, 0) != NONE; k++) {
            b.append(k == 0 ? "" : ", ").append(x.fault(k, 0)).append(' ').append(x.fault(k, 1)).append(' ')
                .append(x.fault(k, 2));
        }
        return b.toString();
    }

    /** The faults of a line that is tried. */
    static String judged(SpeciesSolver x, int... pitches) {
        attempt(x, pitches);
        return faults(x, x.judge());
    }

    /** The COST of a line that is tried. */
    static int tried(SpeciesSolver x, int... pitches) {
        attempt(x, pitches);
        return x.tried();
    }
}
