import java.util.List;
import java.util.Random;

/** Random setups with a fixed seed: every answer against that of the oracles (promises 10 to 20). */
public final class OracleTest {
    private static final Check CHECK = new Check("OracleTest");
    private static final Random RANDOM = new Random(20261115);

    public static void main(String[] args) {
        int solved = 0;
        int setups = 6000;
        for (int run = 0; run < setups; run++) {
            solved += compareSearch(run) ? 1 : 0;
        }
        CHECK.due("enough setups have a line", solved > setups / 5 && solved < setups, true);
        for (int run = 0; run < 6000; run++) {
            compareJudge(run);
        }
        int longOnes = 0;
        int longSetups = 300;
        for (int run = 0; run < longSetups; run++) {
            longOnes += compareLongSearch(run) ? 1 : 0;
        }
        CHECK.due("enough long ones have a line", longOnes > longSetups * 4 / 5, true);
        compareFullestLayers();
        CHECK.end();
    }

    private static int between(int low, int high) {
        return low + RANDOM.nextInt(high - low + 1);
    }

    private static int mask(int bits) {
        int mask = RANDOM.nextInt(1 << bits);
        return RANDOM.nextBoolean() ? mask : mask | RANDOM.nextInt(1 << bits);
    }

    private static void set(Oracle o, SpeciesSolver x, int which, int v) {
        o.numbers[which] = v;
        CHECK.due("number(" + which + ", " + v + ")", x.number(which, v), true);
    }

    /** Each rule is on by a likelihood of one to so many quarters. */
    private static void setRules(Oracle o, SpeciesSolver x, int quarters) {
        int likely = between(1, quarters);
        for (int rule = 0; rule < 11; rule++) {
            if (RANDOM.nextInt(4) >= likely) {
                o.on[rule] = false;
                x.rule(rule, false);
            }
        }
    }

    private static void setNumbers(Oracle o, SpeciesSolver x) {
        int[] bits = {3, 4, 5, 6};
        for (int which : bits) {
            if (RANDOM.nextInt(2) == 0) {
                set(o, x, which, mask(12));
            }
        }
        if (RANDOM.nextInt(3) == 0) {
            set(o, x, 7, mask(25) & mask(25) & RANDOM.nextInt(1 << 25));
        }
        int[] most = {12, 24, 24, 3};
        for (int i = 0; i < 4; i++) {
            if (RANDOM.nextInt(2) == 0) {
                set(o, x, 8 + i, between(1, most[i]));
            }
        }
        for (int which = 12; which < 18; which++) {
            if (RANDOM.nextInt(2) == 0) {
                set(o, x, which, between(0, RANDOM.nextInt(5) == 0 ? 1000 : 3));
            }
        }
    }

    private static void setLines(Oracle o, SpeciesSolver x, int n) {
        int lines = between(1, 3);
        for (int g = 0; g < lines; g++) {
            int[] line = new int[n];
            int base = between(50, 66);
            for (int i = 0; i < n; i++) {
                line[i] = base + between(-5, 5);
                x.note(line[i]);
            }
            o.given.add(line);
            CHECK.due("give()", x.give(), g);
        }
    }

    private static void setSpecies(Oracle o, SpeciesSolver x, int k) {
        o.k = k;
        o.above = RANDOM.nextBoolean();
        x.species(k, o.above);
    }

    /** How many pitches there may be to choose from if not too many lines are to be made. */
    private static int mostFor(int notes) {
        int most = 8;
        while (Math.pow(most, notes) > 9000) {
            most--;
        }
        return most;
    }

    /** A MODE and a range that hold so many pitches, or fewer. */
    private static void setChoice(Oracle o, SpeciesSolver x, int most) {
        int low = between(48, 66);
        int mode = 0;
        int high = low;
        int size = 0;
        int wanted = RANDOM.nextInt(12) == 0 ? between(0, most) : most;
        while (size < wanted) {
            if (RANDOM.nextInt(3) > 0 && high - low < 12) {
                mode |= 1 << high % 12;
                size++;
            }
            if (high - low >= 12) {
                break;
            }
            high++;
        }
        set(o, x, 0, mode);
        set(o, x, 1, low);
        set(o, x, 2, Math.min(high, low + 11));
    }

    private static boolean compareSearch(int run) {
        Oracle o = new Oracle();
        SpeciesSolver x = new SpeciesSolver();
        int[] species = {1, 1, 2, 2, 4};
        int k = species[RANDOM.nextInt(5)];
        int n = k == 1 ? between(2, 7) : k == 2 ? between(2, 5) : between(2, 4);
        setLines(o, x, n);
        setSpecies(o, x, k);
        setRules(o, x, 4);
        setNumbers(o, x);
        setChoice(o, x, mostFor(o.total()));
        o.search();
        String name = "run " + run + ": ";
        CHECK.due(name + "choice()", x.choice(), o.choice().length);
        boolean countFirst = RANDOM.nextBoolean();
        if (countFirst) {
            CHECK.due(name + "reach()", x.reach(), o.reach());
            CHECK.due(name + "count()", x.count(), o.count);
        }
        compareFound(name, x, o.least, o.line);
        CHECK.due(name + "ties()", x.ties(), o.ties);
        CHECK.due(name + "count()", x.count(), o.count);
        CHECK.due(name + "reach()", x.reach(), o.reach());
        return o.least != -1;
    }

    private static void compareFound(String name, SpeciesSolver x, int least, int[] line) {
        CHECK.due(name + "solve()", x.solve(), least == -1 ? 0 : 1);
        CHECK.due(name + "cost()", x.cost(), least);
        CHECK.due(name + "told(5)", x.told(5), line.length);
        for (int i = 0; i < line.length; i++) {
            CHECK.due(name + "found(" + i + ")", x.found(i), line[i]);
        }
        CHECK.due(name + "found() behind the last", x.found(line.length), -1);
    }

    /** Lines of up to 45 notes, too many to make each; rules are turned off one by one until there is a line. */
    private static boolean compareLongSearch(int run) {
        Oracle o = new Oracle();
        SpeciesSolver x = new SpeciesSolver();
        int[] species = {1, 2, 4};
        int k = species[RANDOM.nextInt(3)];
        setLines(o, x, between(k == 1 ? 8 : 6, 12));
        setSpecies(o, x, k);
        setRules(o, x, 4);
        setNumbers(o, x);
        setChoice(o, x, k == 1 ? 8 : between(3, 6));
        String name = "long run " + run + ": ";
        boolean is = compareLong(name, o, x);
        for (int rule = RANDOM.nextInt(11), times = 0; !is && times < 11; times++) {
            rule = (rule + 4) % 11;
            if (o.on[rule]) {
                o.on[rule] = false;
                x.rule(rule, false);
                is = compareLong(name, o, x);
            }
        }
        return is;
    }

    private static boolean compareLong(String name, Oracle o, SpeciesSolver x) {
        LongOracle l = new LongOracle(o);
        CHECK.due(name + "count()", x.count(), l.count());
        CHECK.due(name + "ties()", x.ties(), l.ties());
        compareFound(name, x, l.least(), l.line());
        return l.least() != -1;
    }

    /** Every pair of notes that are not the same must be held by the search, and so must up to three that are. */
    private static void compareFullestLayers() {
        for (int run = 0; run < 4; run++) {
            Oracle o = new Oracle();
            SpeciesSolver x = new SpeciesSolver();
            setLines(o, x, run < 2 ? 2 : 3);
            setSpecies(o, x, 4);
            for (int rule = 0; rule < 11; rule++) {
                o.on[rule] = rule == 6 || rule == 7 || rule == 10 && run % 2 == 0;
                x.rule(rule, o.on[rule]);
            }
            set(o, x, 0, 0b110111011001);
            set(o, x, 1, 58);
            set(o, x, 2, 68);
            set(o, x, 8, 12);
            set(o, x, 10, 1);
            set(o, x, 11, 3);
            CHECK.due("choice()", x.choice(), 8);
            CHECK.due("there is a line", compareLong("full run " + run + ": ", o, x), true);
        }
    }

    private static void compareJudge(int run) {
        Oracle o = new Oracle();
        SpeciesSolver x = new SpeciesSolver();
        int[] species = {1, 2, 4};
        setLines(o, x, between(2, 12));
        setSpecies(o, x, species[RANDOM.nextInt(3)]);
        setRules(o, x, 4);
        setNumbers(o, x);
        int[] p = new int[o.total()];
        int spread = RANDOM.nextInt(4) == 0 ? 60 : between(1, 8);
        p[0] = between(55, 67);
        x.note(p[0]);
        for (int j = 1; j < p.length; j++) {
            int from = RANDOM.nextInt(4) == 0 ? p[j - 1] : p[j - 1] + between(-spread, spread);
            p[j] = Math.max(0, Math.min(127, from));
            x.note(p[j]);
        }
        CHECK.due("attempt()", x.attempt(), p.length);
        List<int[]> faults = o.faults(p, p.length);
        String name = "judge run " + run + ": ";
        CHECK.due(name + "judge()", x.judge(), faults.size());
        CHECK.due(name + "tried()", x.tried(), o.cost(p));
        // an object has no more than 512 calls, so not all of many faults can be asked for
        int from = faults.size() <= 120 ? 0 : RANDOM.nextInt(203 - 120);
        for (int i = from; i < from + 120; i++) {
            for (int what = 0; what < 3; what++) {
                int want = i < faults.size() && i < 200 ? faults.get(i)[what] : -1;
                CHECK.due(name + "fault(" + i + ", " + what + ")", x.fault(i, what), want);
            }
        }
    }
}
