import java.util.function.Consumer;
import java.util.function.ToLongFunction;

/**
 * "Of several refusals a call answers the one named first; it changes nothing then." Each refused call is made on
 * objects in several states; what they hold then is compared with what others hold that were never asked. Every
 * refusal of a call has the same answer, so which one is named first cannot be seen.
 */
public final class RefusalTest extends Solvers {
    private static final Check CHECK = new Check("RefusalTest");

    public static void main(String[] args) {
        probesSeeChanges();
        refusedNotes();
        refusedGives();
        refusedDrops();
        refusedSpecies();
        refusedRules();
        refusedNumbers();
        refusedSearches();
        refusedKeeps();
        refusedJudgements();
        wrongQuestions();
        questions();
        CHECK.end();
    }

    /** A call that must answer so, and leave an object in that state as it was. */
    private static void changesNothing(String name, Consumer<SpeciesSolver> state,
            ToLongFunction<SpeciesSolver> call, long due) {
        SpeciesSolver asked = made(state);
        CHECK.due(name, call.applyAsLong(asked), due);
        CHECK.due(name + " again", call.applyAsLong(asked), due);
        CHECK.due(name + " changes nothing", Probe.ofAllButTheDraft(asked), Probe.ofAllButTheDraft(made(state)));
        asked = made(state);
        call.applyAsLong(asked);
        CHECK.due(name + " leaves the draft", Probe.ofTheDraft(asked), Probe.ofTheDraft(made(state)));
    }

    private static SpeciesSolver made(Consumer<SpeciesSolver> state) {
        SpeciesSolver x = new SpeciesSolver();
        state.accept(x);
        return x;
    }

    private static void bare(SpeciesSolver x) {
        CHECK.due("nothing is given", x.told(0), 0);
    }

    /** A line is given and one is found, FAULTS are told, rules are off, numbers are others, and a draft is begun. */
    private static void busy(SpeciesSolver x) {
        write(x, 60, 62, 64, 62);
        x.give();
        x.rule(3, false);
        x.rule(9, false);
        x.number(14, 7);
        x.number(11, 2);
        x.species(2, false);
        CHECK.due("a line is found", x.solve(), 1);
        attempt(x, 60, 66, 59, 70, 61, 61, 61);
        x.judge();
        attempt(x, 60, 66, 59, 72, 61, 61, 60);
        write(x, 61, 65, 63);
    }

    /** As busy, with two lines more. */
    private static void full(SpeciesSolver x) {
        x.attempt();
        write(x, 60, 62, 64, 62);
        x.give();
        write(x, 67, 62, 72, 74);
        x.give();
        busy(x);
        x.attempt();
        write(x, 61, 65, 63, 60);
    }

    private static void draftOf(SpeciesSolver x, int size) {
        for (int i = 0; i < size; i++) {
            x.note(50 + i * 7 % 31);
        }
    }

    /** The comparison is worth something: each call that is taken is seen by it. */
    private static void probesSeeChanges() {
        seen("note()", x -> x.note(60));
        seen("give()", x -> x.note(60) + x.give());
        seen("attempt()", x -> x.attempt());
        seen("drop()", x -> x.drop() ? 1 : 0);
        seen("species()", x -> x.species(4, false) ? 1 : 0);
        seen("ABOVE", x -> x.species(2, true) ? 1 : 0);
        for (int rule = 0; rule < RULES; rule++) {
            int which = rule;
            seen("rule " + rule, x -> x.rule(which, which == 3 || which == 9) ? 1 : 0);
        }
        for (int number = 0; number < NUMBERS; number++) {
            int which = number;
            int other = which == 13 ? 2 : 3;
            seen("number " + number, x -> x.number(which, other) ? 1 : 0);
        }
        seen("solve() of another line", x -> x.number(14, 1) && x.number(0, 0) ? x.solve() : NONE);
        seen("keep()", x -> x.keep());
        seen("judge()", x -> x.judge());
    }

    private static void seen(String name, ToLongFunction<SpeciesSolver> call) {
        SpeciesSolver asked = made(RefusalTest::busy);
        call.applyAsLong(asked);
        boolean same = Probe.ofAllButTheDraft(asked).equals(Probe.ofAllButTheDraft(made(RefusalTest::busy)));
        CHECK.due(name + " is seen", same, false);
    }

    /** 2: "NONE when there is no such PITCH, or it has 45." */
    private static void refusedNotes() {
        int[] wrong = {-1, 128, Integer.MIN_VALUE, Integer.MAX_VALUE};
        for (int pitch : wrong) {
            changesNothing("note(" + pitch + ")", RefusalTest::bare, x -> x.note(pitch), NONE);
            changesNothing("note(" + pitch + ") when busy", RefusalTest::busy, x -> x.note(pitch), NONE);
            changesNothing("note(" + pitch + ") behind 44", x -> draftOf(x, 44), x -> x.note(pitch), NONE);
            changesNothing("note(" + pitch + ") behind 45", x -> draftOf(x, 45), x -> x.note(pitch), NONE);
        }
        changesNothing("note(60) behind 45", x -> draftOf(x, 45), x -> x.note(60), NONE);
        changesNothing("note(0) behind 45", x -> draftOf(x, 45), x -> x.note(0), NONE);
    }

    /** 3: "NONE when there are 3, it has not 2 to 12 notes, or not as many as the others." */
    private static void refusedGives() {
        int[] sizes = {0, 1, 13, 23, 44, 45};
        for (int size : sizes) {
            changesNothing("give() of " + size, x -> draftOf(x, size), x -> x.give(), NONE);
        }
        changesNothing("give() of 3 where n is 4", RefusalTest::busy, x -> x.give(), NONE);
        changesNothing("give() of 5 where n is 4", x -> {
            busy(x);
            write(x, 62, 60);
        }, x -> x.give(), NONE);
        changesNothing("give() of a fourth", RefusalTest::full, x -> x.give(), NONE);
        changesNothing("give() of a fourth of another n", x -> {
            full(x);
            x.note(60);
        }, x -> x.give(), NONE);
        changesNothing("give() of an empty fourth", x -> {
            full(x);
            x.attempt();
        }, x -> x.give(), NONE);
    }

    /** 5: "whether there was one". */
    private static void refusedDrops() {
        changesNothing("drop()", RefusalTest::bare, x -> x.drop() ? 1 : 0, 0);
        changesNothing("drop() of none that is left", x -> {
            busy(x);
            x.drop();
        }, x -> x.drop() ? 1 : 0, 0);
    }

    /** 6: "false when k is not 1, 2 or 4." */
    private static void refusedSpecies() {
        int[] wrong = {0, 3, 5, 6, 8, -1, -2, -4, Integer.MIN_VALUE, Integer.MAX_VALUE};
        for (int k : wrong) {
            changesNothing("species(" + k + ", true)", RefusalTest::busy, x -> x.species(k, true) ? 1 : 0, 0);
            changesNothing("species(" + k + ", false)", RefusalTest::bare, x -> x.species(k, false) ? 1 : 0, 0);
        }
    }

    /** 7: "false when there is none such." */
    private static void refusedRules() {
        int[] wrong = {-1, 11, 12, Integer.MIN_VALUE, Integer.MAX_VALUE};
        for (int rule : wrong) {
            changesNothing("rule(" + rule + ", true)", RefusalTest::busy, x -> x.rule(rule, true) ? 1 : 0, 0);
            changesNothing("rule(" + rule + ", false)", RefusalTest::busy, x -> x.rule(rule, false) ? 1 : 0, 0);
            changesNothing("rule(" + rule + ", false)", RefusalTest::bare, x -> x.rule(rule, false) ? 1 : 0, 0);
        }
    }

    /** 8: "false when there is none such, or v is none that it may be (also bits that it has not)." */
    private static void refusedNumbers() {
        int[] wrong = {-1, 18, Integer.MIN_VALUE, Integer.MAX_VALUE};
        for (int which : wrong) {
            changesNothing("number(" + which + ", 1)", RefusalTest::busy, x -> x.number(which, 1) ? 1 : 0, 0);
            changesNothing("number(" + which + ", -1)", RefusalTest::bare, x -> x.number(which, -1) ? 1 : 0, 0);
        }
        int[] below = {-1, -1, -1, -1, -1, -1, -1, -1, 0, 0, 0, 0, -1, -1, -1, -1, -1, -1};
        int[] above = {4096, 128, 128, 4096, 4096, 4096, 4096, 1 << 25, 13, 25, 25, 4,
            1001, 1001, 1001, 1001, 1001, 1001};
        for (int number = 0; number < NUMBERS; number++) {
            int which = number;
            int[] values = {below[which], above[which], Integer.MIN_VALUE, Integer.MAX_VALUE};
            for (int v : values) {
                String name = "number(" + which + ", " + v + ")";
                changesNothing(name, RefusalTest::busy, x -> x.number(which, v) ? 1 : 0, 0);
            }
        }
    }

    private static void busyWithNine(SpeciesSolver x) {
        busy(x);
        x.number(2, 74);
    }

    private static void busyWithoutLine(SpeciesSolver x) {
        busy(x);
        x.drop();
    }

    private static void busyWithNeither(SpeciesSolver x) {
        busyWithNine(x);
        x.drop();
    }

    /** 11: "NONE when no line is given, or THE CHOICE is NONE (what was found stays)"; 14 to 16: "NONE as solve()". */
    private static void refusedSearches() {
        refusedSearches("bare", RefusalTest::bare);
        refusedSearches("nine", RefusalTest::busyWithNine);
        refusedSearches("no line", RefusalTest::busyWithoutLine);
        refusedSearches("neither", RefusalTest::busyWithNeither);
    }

    private static void refusedSearches(String name, Consumer<SpeciesSolver> state) {
        changesNothing("solve(): " + name, state, x -> x.solve(), NONE);
        changesNothing("count(): " + name, state, x -> x.count(), NONE);
        changesNothing("ties(): " + name, state, x -> x.ties(), NONE);
        changesNothing("reach(): " + name, state, x -> x.reach(), NONE);
    }

    /** 17: "NONE when none is found, there are 3, no line is given, or n is another one". */
    private static void refusedKeeps() {
        changesNothing("keep() of nothing", RefusalTest::bare, x -> x.keep(), NONE);
        changesNothing("keep() of none found", x -> {
            busy(x);
            x.number(0, 0);
            x.solve();
        }, x -> x.keep(), NONE);
        changesNothing("keep() of a fourth", RefusalTest::full, x -> x.keep(), NONE);
        changesNothing("keep() without a line", RefusalTest::busyWithoutLine, x -> x.keep(), NONE);
        for (int n = 2; n <= 6; n++) {
            int other = n;
            changesNothing("keep() where n was 4", x -> {
                busy(x);
                x.attempt();
                x.drop();
                writeLike(x, 60, other == 4 ? 12 : other);
                x.give();
            }, x -> x.keep(), NONE);
        }
    }

    /** 18: "NONE when no line is given, or it has not N notes"; 20: "NONE as judge()". */
    private static void refusedJudgements() {
        refusedJudgements("bare", RefusalTest::bare);
        refusedJudgements("no line", RefusalTest::busyWithoutLine);
        int[] species = {1, 4};
        for (int k : species) {
            refusedJudgements("K of " + k, x -> {
                busy(x);
                x.species(k, false);
            });
        }
        int[] sizes = {0, 6, 8, 45};
        for (int size : sizes) {
            refusedJudgements("TRY of " + size, x -> {
                busy(x);
                x.attempt();
                writeLike(x, 59, size);
                x.attempt();
            });
        }
    }

    private static void refusedJudgements(String name, Consumer<SpeciesSolver> state) {
        changesNothing("judge(): " + name, state, x -> x.judge(), NONE);
        changesNothing("tried(): " + name, state, x -> x.tried(), NONE);
    }

    /** 9, 12, 19 and 21: what there is none of is NONE. */
    private static void wrongQuestions() {
        int[] wrong = {-1, 45, 200, Integer.MIN_VALUE, Integer.MAX_VALUE};
        for (int i : wrong) {
            changesNothing("setting(" + i + ")", RefusalTest::busy, x -> x.setting(i), NONE);
            changesNothing("found(" + i + ")", RefusalTest::busy, x -> x.found(i), NONE);
            changesNothing("told(" + i + ")", RefusalTest::busy, x -> x.told(i), NONE);
            changesNothing("fault(" + i + ", 0)", RefusalTest::busy, x -> x.fault(i, 0), NONE);
            changesNothing("fault(0, " + i + ")", RefusalTest::busy, x -> x.fault(0, i), NONE);
        }
        changesNothing("setting(18)", RefusalTest::busy, x -> x.setting(18), NONE);
        changesNothing("told(6)", RefusalTest::busy, x -> x.told(6), NONE);
        changesNothing("fault(0, 3)", RefusalTest::busy, x -> x.fault(0, 3), NONE);
        changesNothing("found(7)", RefusalTest::busy, x -> x.found(7), NONE);
        changesNothing("found(0)", RefusalTest::bare, x -> x.found(0), NONE);
        changesNothing("cost()", RefusalTest::bare, x -> x.cost(), NONE);
        changesNothing("choice()", RefusalTest::busyWithNine, x -> x.choice(), NONE);
    }

    /** Calls that only ask change nothing either: what is counted is not found, and what is priced is not judged. */
    private static void questions() {
        SpeciesSolver y = made(RefusalTest::busy);
        changesNothing("choice()", RefusalTest::busy, x -> x.choice(), y.choice());
        changesNothing("cost()", RefusalTest::busy, x -> x.cost(), y.cost());
        changesNothing("found(0)", RefusalTest::busy, x -> x.found(0), y.found(0));
        changesNothing("count()", RefusalTest::busy, x -> x.count(), y.count());
        changesNothing("ties()", RefusalTest::busy, x -> x.ties(), y.ties());
        changesNothing("reach()", RefusalTest::busy, x -> x.reach(), y.reach());
        changesNothing("tried()", RefusalTest::busy, x -> x.tried(), y.tried());
        changesNothing("fault(0, 0)", RefusalTest::busy, x -> x.fault(0, 0), y.fault(0, 0));
        Consumer<SpeciesSolver> otherNumbers = x -> {
            busy(x);
            x.number(14, 0);
            x.rule(7, false);
        };
        SpeciesSolver z = made(otherNumbers);
        changesNothing("count() of others than found", otherNumbers, x -> x.count(), z.count());
        changesNothing("ties() of others than found", otherNumbers, x -> x.ties(), z.ties());
        changesNothing("reach() of others than found", otherNumbers, x -> x.reach(), z.reach());
    }
}
