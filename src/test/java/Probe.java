/**
 * Tells all that can be seen of an object, as one text, and what it holds unseen by using it up. Helps the tests, and
 * is none itself.
 */
final class Probe extends Solvers {
    private static final int MOST_FAULTS = 12;

    private final SpeciesSolver x;
    private final StringBuilder seen = new StringBuilder();

    private Probe(SpeciesSolver x) {
        this.x = x;
    }

    /** All that is told; then the TRY, the given lines, SPECIES, ABOVE and RULES by what they bring about. */
    static String ofAllButTheDraft(SpeciesSolver x) {
        Probe probe = new Probe(x);
        probe.lookAtWhatIsTold();
        probe.lookAtTheTry();
        probe.lookAtTheLines();
        probe.lookAtTheRules();
        return probe.seen.toString();
    }

    /** The notes of the draft, by their COST and FAULTS as a TRY against one line. */
    static String ofTheDraft(SpeciesSolver x) {
        Probe probe = new Probe(x);
        int size = x.told(3);
        int n = size <= 12 ? Math.max(size, 2) : 12;
        int k = size <= 12 ? 1 : size <= 23 ? 2 : 4;
        writeLike(x, 3, k * (n - 1) + 1 - size);
        probe.see("attempt", x.attempt());
        probe.dropAll();
        writeLike(x, 64, n);
        x.give();
        x.species(k, true);
        for (int rule = 0; rule < RULES; rule++) {
            x.rule(rule, true);
        }
        probe.see("judge", x.judge());
        probe.see("faults", faults(x, 60));
        probe.see("tried", x.tried());
        return probe.seen.toString();
    }

    private void see(String name, Object answer) {
        seen.append(name).append(": ").append(answer).append('\n');
    }

    private void dropAll() {
        int lines = x.told(0);
        for (int i = 0; i < lines; i++) {
            x.drop();
        }
    }

    private void lookAtWhatIsTold() {
        for (int what = 0; what <= 5; what++) {
            see("told " + what, x.told(what));
        }
        for (int which = 0; which < NUMBERS; which++) {
            see("setting " + which, x.setting(which));
        }
        see("found", line(x));
        see("cost", x.cost());
        see("faults told", faults(x, MOST_FAULTS));
    }

    private void lookAtTheTry() {
        see("judge", x.judge());
        see("faults", faults(x, MOST_FAULTS));
        see("tried", x.tried());
    }

    private void lookAtTheLines() {
        see("choice", x.choice());
        see("reach", x.reach());
        see("count", x.count());
        see("ties", x.ties());
        see("keep", x.keep());
        see("count with the line kept", x.count());
        see("solve", x.solve());
        see("cost", x.cost());
        see("drop", x.drop());
        see("count without the last line", x.count());
    }

    /** A TRY against three notes that breaks every rule when all CLASSES are in PERFECT, but rule 4 of SPECIES 1. */
    private void lookAtTheRules() {
        x.attempt();
        dropAll();
        write(x, 60, 62, 67);
        x.give();
        x.number(4, 4095);
        int[] notes = {59, 75, 75, 75, 61, 75, 74, 73, 80};
        for (int i = 0; i < x.told(2); i++) {
            x.note(notes[i]);
        }
        x.attempt();
        see("judge with all rules", x.judge());
        see("their faults", faults(x, 40));
        see("tried", x.tried());
        onlyRule(x, 3);
        see("judge ABOVE", x.judge());
    }
}
