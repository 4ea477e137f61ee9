/** The edges of promises 17 to 21, and of the 512 calls: each test quotes the sentence whose edge it is. */
public final class JudgeEdgeTest extends Solvers {
    private static final Check CHECK = new Check("JudgeEdgeTest");

    public static void main(String[] args) {
        keepWhenNoneIsFound();
        keepWhenThereAreThree();
        keepWhenNoLineIsGiven();
        keepOfAnotherLength();
        keepItsStrongNotes();
        keepAfterTheSpeciesChanged();
        judgeOfNoFault();
        judgeWithoutLine();
        judgeOfNNotes();
        judgeAsksNoChoice();
        orderOfFaults();
        faultsAround200();
        mostFaults();
        faultOfEachKind();
        faultHasEnds();
        faultsOfTheLatest();
        triedAsJudge();
        triedAsItIsNow();
        toldOfTheFull();
        toldOfTheEmpty();
        toldOfNoSuch();
        calls512();
        CHECK.end();
    }

    /** 17: "NONE when none is found". */
    private static void keepWhenNoneIsFound() {
        SpeciesSolver x = given(60, 60);
        CHECK.due("17: nothing was asked", x.keep(), NONE);
        x.number(0, 0);
        x.solve();
        CHECK.due("17: there is none", x.keep(), NONE);
        CHECK.due("17: nothing is given by it", x.told(0), 1);
    }

    /** 17: "there are 3". */
    private static void keepWhenThereAreThree() {
        SpeciesSolver x = only(NONE, 1, 2, 60, 60);
        x.solve();
        CHECK.due("17: a second", x.keep(), 1);
        CHECK.due("17: a third", x.keep(), 2);
        CHECK.due("17: a fourth", x.keep(), NONE);
        CHECK.due("17: still 3", x.told(0), 3);
        x.drop();
        CHECK.due("17: a third again", x.keep(), 2);
    }

    /** 17: "no line is given". */
    private static void keepWhenNoLineIsGiven() {
        SpeciesSolver x = only(NONE, 1, 2, 60, 60);
        x.solve();
        x.drop();
        CHECK.due("17: none is left", x.keep(), NONE);
        CHECK.due("17: still none", x.told(0), 0);
        CHECK.due("17: no n either", x.told(1), 0);
        CHECK.due("17: it is found all the same", x.told(5), 2);
    }

    /** 17: "or n is another one than that for which it was found." */
    private static void keepOfAnotherLength() {
        for (int n = 2; n <= 12; n++) {
            SpeciesSolver x = only(NONE, 1, 5, 60, 60, 60, 60, 60);
            x.solve();
            x.drop();
            writeLike(x, 50, n);
            x.give();
            CHECK.due("17: found for 5, n is " + n, x.keep(), n == 5 ? 1 : NONE);
            CHECK.due("17: n stays", x.told(1), n);
        }
        // a line of 5 notes was found for an n of 3 here: its notes do not make it fit an n of 5
        SpeciesSolver y = only(NONE, 2, 3, 60, 60, 60);
        y.solve();
        y.drop();
        y.species(1, true);
        writeLike(y, 60, 5);
        y.give();
        CHECK.due("17: five notes, but n was 3", y.keep(), NONE);
    }

    /** 17: "The line found becomes a given one (its STRONG notes)": of each SPECIES, n of 2 and of 12. */
    private static void keepItsStrongNotes() {
        int[] species = {1, 2, 4};
        int[] lengths = {2, 12};
        for (int k : species) {
            for (int n : lengths) {
                SpeciesSolver x = strongInUnison(k, n);
                String name = " of K " + k + " and n " + n;
                CHECK.due("17: keep()" + name, x.keep(), 1);
                onlyRule(x, 3);
                x.species(1, true);
                writeLeaps(x, n);
                x.attempt();
                CHECK.due("17: none is higher" + name, x.judge(), 0);
                x.species(1, false);
                CHECK.due("17: none is lower" + name, x.judge(), 0);
                CHECK.due("17: there are two" + name, x.told(0), 2);
            }
        }
    }

    private static void writeLeaps(SpeciesSolver x, int n) {
        for (int i = 0; i < n; i++) {
            x.note(60 + i * 3 % 7);
        }
    }

    /** A line is found whose STRONG notes are those given, and whose others are not the same as those beside them. */
    private static SpeciesSolver strongInUnison(int k, int n) {
        SpeciesSolver x = new SpeciesSolver();
        writeLeaps(x, n);
        x.give();
        onlyRule(x, 0);
        x.rule(7, true);
        x.number(3, 1);
        x.number(0, 4095);
        range(x, 60, 66);
        x.species(k, true);
        CHECK.due("11: solve()", x.solve(), 1);
        return x;
    }

    /** 17: STRONG is what was so when it was found: N notes of K to each would not fit otherwise. */
    private static void keepAfterTheSpeciesChanged() {
        int[] species = {1, 2, 4};
        for (int k : species) {
            for (int later : species) {
                SpeciesSolver x = weakAbove(k);
                x.species(later, true);
                CHECK.due("17: found with " + k + ", kept with " + later, x.keep(), 1);
                CHECK.due("17: n stays", x.told(1), 3);
                onlyRule(x, 3);
                x.species(1, true);
                CHECK.due("17: not above its STRONG notes", judged(x, 60, 60, 60), "");
                x.species(1, false);
                CHECK.due("17: nor below them", judged(x, 61, 61, 61), "3 0 0, 3 0 1, 3 1 0, 3 1 1, 3 2 0, 3 2 1");
            }
        }
    }

    /** A line is found whose STRONG notes are 60 and, where there are others, these are not all: 60 61 60 61 60. */
    private static SpeciesSolver weakAbove(int k) {
        SpeciesSolver x = only(0, k, 3, 60, 60, 60);
        noCosts(x);
        x.number(0, 4095);
        x.number(3, 1);
        range(x, 60, 62);
        x.rule(7, k != 1);
        x.solve();
        return x;
    }

    /** 18: "how many": 0 is not NONE. */
    private static void judgeOfNoFault() {
        SpeciesSolver x = only(NONE, 1, 2, 60, 60);
        attempt(x, 0, 127);
        CHECK.due("18: no rule is on", x.judge(), 0);
        CHECK.due("19: no FAULT is told", x.fault(0, 0), NONE);
    }

    /** 18: "NONE when no line is given". */
    private static void judgeWithoutLine() {
        SpeciesSolver x = new SpeciesSolver();
        CHECK.due("18: no TRY either", x.judge(), NONE);
        attempt(x, 60);
        CHECK.due("18: a TRY of one note", x.judge(), NONE);
        CHECK.due("20: a TRY of one note", x.tried(), NONE);
        attempt(x, 60, 62);
        CHECK.due("18: a TRY of two", x.judge(), NONE);
        CHECK.due("20: a TRY of two", x.tried(), NONE);
    }

    /** 18: "or it has not N notes": with the n and the SPECIES of now. */
    private static void judgeOfNNotes() {
        SpeciesSolver x = only(NONE, 1, 3, 60, 60, 60);
        attempt(x, 60, 60, 60);
        CHECK.due("18: N", x.judge(), 0);
        x.species(2, true);
        CHECK.due("18: N is 5 now", x.judge(), NONE);
        CHECK.due("20: N is 5 now", x.tried(), NONE);
        x.drop();
        write(x, 60, 60);
        x.give();
        CHECK.due("18: N is 3 again", x.judge(), 0);
        x.species(1, true);
        CHECK.due("18: N is 2", x.judge(), NONE);
        x.attempt();
        CHECK.due("18: a TRY of no notes", x.judge(), NONE);
        CHECK.due("20: a TRY of no notes", x.tried(), NONE);
    }

    /** 18: "(THE CHOICE is not asked ..". */
    private static void judgeAsksNoChoice() {
        SpeciesSolver x = only(3, 1, 2, 60, 60);
        range(x, 0, 127);
        CHECK.due("18: THE CHOICE is NONE", judged(x, 60, 59), "3 1 0");
        CHECK.due("20: THE CHOICE is NONE", x.tried(), 1);
        x.number(0, 0);
        CHECK.due("18: it is empty", judged(x, 60, 59), "3 1 0");
        CHECK.due("20: it is empty", x.tried(), 1);
        range(x, 100, 100);
        CHECK.due("18: the notes are not in it", judged(x, 59, 60), "3 0 0");
    }

    /** 18: "by notes, of one note by rules, of one rule by given lines". */
    private static void orderOfFaults() {
        SpeciesSolver x = given(60, 62);
        write(x, 60, 62);
        x.give();
        x.number(3, 0);
        x.number(4, 4095);
        x.number(5, 0);
        x.number(9, 1);
        CHECK.due("18: 0, 2, 3, 5 and 9 of one note, with two lines", judged(x, 40, 59),
            "0 0 -1, 3 0 0, 3 0 1, 8 0 -1, 0 1 -1, 2 1 0, 2 1 1, 3 1 0, 3 1 1, 5 1 -1, 9 1 -1");
        CHECK.due("18: 0, 1 and 3 of one note, with two lines", judged(x, 58, 60),
            "0 0 -1, 3 0 0, 3 0 1, 8 0 -1, 0 1 -1, 1 1 0, 1 1 1, 3 1 0, 3 1 1, 5 1 -1, 9 1 -1");
        CHECK.due("18: 7, 9 and 10 of one note", judged(x, 70, 70), "0 0 -1, 8 0 -1, 0 1 -1, 7 1 -1, 9 1 -1, 10 1 -1");
        x.species(2, true);
        CHECK.due("18: 4, 5 and 7 of one note", judged(x, 80, 80, 60),
            "0 0 -1, 8 0 -1, 4 1 0, 4 1 1, 7 1 -1, 10 1 -1, 0 2 -1, 3 2 0, 3 2 1, 5 2 -1, 9 2 -1");
        String leaps = judged(x, 80, 90, 100);
        CHECK.due("18: 5 and 6 of one note", leaps.endsWith("2 2 0, 2 2 1, 5 2 -1, 6 2 -1, 9 2 -1"), true);
    }

    /** A TRY of 45 notes below three lines, so many of 60 before those of 59: it has 177 FAULTS and these. */
    private static SpeciesSolver manyFaults(int highest) {
        SpeciesSolver x = new SpeciesSolver();
        for (int line = 0; line < 3; line++) {
            writeLike(x, 70, 12);
            x.give();
        }
        x.species(4, true);
        onlyRule(x, 3);
        x.rule(7, true);
        x.rule(10, true);
        writeLike(x, 60, highest);
        writeLike(x, 59, 45 - highest);
        x.attempt();
        return x;
    }

    /** 18: "at most 200 are told, but all are counted". */
    private static void faultsAround200() {
        for (int all = 198; all <= 202; all++) {
            SpeciesSolver x = manyFaults(all - 177);
            CHECK.due("18: all are counted", x.judge(), all);
            CHECK.due("19: the 198th is told", x.fault(197, 0) != NONE, true);
            for (int what = 0; what <= 1; what++) {
                CHECK.due("19: the 199th of " + all, x.fault(198, what) != NONE, all >= 199);
                CHECK.due("19: the 200th of " + all, x.fault(199, what) != NONE, all >= 200);
                CHECK.due("19: the 201st of " + all, x.fault(200, what), NONE);
                CHECK.due("19: the 202nd of " + all, x.fault(201, what), NONE);
            }
            // the last note breaks rule 3 thrice, then rule 7; each note before it has four FAULTS too
            int told = all < 200 ? all : 200;
            int[] rules = {7, 3, 3, 3};
            int[] lines = {NONE, 2, 1, 0};
            CHECK.due("19: the rule of the last told of " + all, x.fault(told - 1, 0), rules[all - told]);
            CHECK.due("19: its note", x.fault(told - 1, 1), 44);
            CHECK.due("19: its line", x.fault(told - 1, 2), lines[all - told]);
            CHECK.due("19: no line behind it", x.fault(told, 2), NONE);
        }
    }

    /** 18: "all are counted": every rule that can be broken at once, of 45 notes with 3 lines. */
    private static void mostFaults() {
        SpeciesSolver x = manyFaults(45);
        for (int rule = 0; rule < RULES; rule++) {
            x.rule(rule, true);
        }
        x.number(3, 0);
        x.number(5, 0);
        x.number(7, 1);
        // STRONG 12 of rule 0; 45 * 3 of 3; 33 * 3 of 4; 44 of 5, of 7 and of 10; 1 of 8 and of 9
        CHECK.due("18: all are counted", x.judge(), 12 + 135 + 99 + 44 + 44 + 44 + 1 + 1);
        CHECK.due("19: the 200th is told", x.fault(199, 0) != NONE, true);
        CHECK.due("19: the 201st is not", x.fault(200, 0), NONE);
        x.rule(3, false);
        x.rule(4, false);
        CHECK.due("18: fewer again", x.judge(), 12 + 44 + 44 + 44 + 1 + 1);
        CHECK.due("19: the last", x.fault(145, 0), 10);
        CHECK.due("19: behind the last, where some were told before", x.fault(146, 0), NONE);
    }

    /** 19: "its rule (what = 0), note (1), given line, NONE where it has none (2)": of each rule. */
    private static void faultOfEachKind() {
        SpeciesSolver x = manyFaults(45);
        x.number(3, 0);
        x.number(5, 0);
        x.number(7, 1);
        for (int rule = 0; rule < RULES; rule++) {
            onlyRule(x, rule);
            boolean withLine = rule == 3 || rule == 4;
            boolean broken = x.judge() > 0;
            CHECK.due("19: rule " + rule + " is broken", broken, rule != 1 && rule != 2 && rule != 6);
            CHECK.due("19: its rule", x.fault(0, 0), broken ? rule : NONE);
            CHECK.due("19: its line", x.fault(0, 2), withLine ? 0 : NONE);
        }
        SpeciesSolver y = only(1, 1, 2, 60, 62);
        judged(y, 67, 69);
        CHECK.due("19: the line of rule 1", y.fault(0, 2), 0);
        onlyRule(y, 2);
        judged(y, 60, 69);
        CHECK.due("19: the line of rule 2", y.fault(0, 2), 0);
        SpeciesSolver z = only(6, 1, 3, 60, 60, 60);
        judged(z, 60, 70, 80);
        CHECK.due("19: no line of rule 6", z.fault(0, 2), NONE);
        CHECK.due("19: its note", z.fault(0, 1), 2);
    }

    /** 19: "NONE: there is none such." */
    private static void faultHasEnds() {
        SpeciesSolver x = only(3, 1, 2, 60, 60);
        CHECK.due("19: before judge()", x.fault(0, 0), NONE);
        judged(x, 59, 59);
        for (int k = -2; k <= 4; k++) {
            for (int what = -2; what <= 5; what++) {
                boolean is = k >= 0 && k <= 1 && what >= 0 && what <= 2;
                int due = what == 0 ? 3 : what == 1 ? k : 0;
                CHECK.due("19: fault(" + k + ", " + what + ")", x.fault(k, what), is ? due : NONE);
            }
        }
        for (int far : FAR) {
            CHECK.due("19: no such FAULT", x.fault(far, 0), NONE);
            CHECK.due("19: no such what", x.fault(0, far), NONE);
            CHECK.due("19: neither", x.fault(far, far), NONE);
        }
    }

    /** 19: "told by the latest judge() that was not NONE". */
    private static void faultsOfTheLatest() {
        SpeciesSolver x = only(3, 1, 2, 60, 60);
        judged(x, 59, 59);
        attempt(x, 60, 59);
        CHECK.due("19: attempt() judges nothing", faults(x, 9), "3 0 0, 3 1 0");
        CHECK.due("20: nor does tried()", x.tried(), 1);
        CHECK.due("19: the same", faults(x, 9), "3 0 0, 3 1 0");
        x.species(4, true);
        CHECK.due("18: NONE", x.judge(), NONE);
        CHECK.due("19: the same", faults(x, 9), "3 0 0, 3 1 0");
        x.species(1, true);
        CHECK.due("18: one", x.judge(), 1);
        CHECK.due("19: that one", faults(x, 9), "3 1 0");
        x.drop();
        CHECK.due("18: no line", x.judge(), NONE);
        CHECK.due("19: that one still", faults(x, 9), "3 1 0");
        write(x, 0, 0);
        x.give();
        CHECK.due("18: none", x.judge(), 0);
        CHECK.due("19: none is told", faults(x, 9), "");
        x.drop();
        CHECK.due("18: NONE again", x.judge(), NONE);
        CHECK.due("19: none is told still", faults(x, 9), "");
    }

    /** 20: "The COST of the TRY; NONE as judge()." */
    private static void triedAsJudge() {
        SpeciesSolver x = only(NONE, 4, 12, new int[12]);
        for (int size = 43; size <= 45; size++) {
            writeLike(x, 60, size);
            x.attempt();
            CHECK.due("20: of " + size, x.tried() == NONE, size != 45);
            CHECK.due("18: of " + size, x.judge() == NONE, size != 45);
        }
        // 44 MOVES of 0, and 10 STRONG notes between the first and the last in PERFECT
        CHECK.due("20: its COST", x.tried(), 44 * 5 + 10);
        noCosts(x);
        CHECK.due("20: nothing costs", x.tried(), 0);
    }

    /** 20: with the lines and NUMBERS of now, whatever was judged. */
    private static void triedAsItIsNow() {
        SpeciesSolver x = only(NONE, 1, 2, 60, 62);
        CHECK.due("20: two semitones, ALIKE with one", tried(x, 67, 69), 4);
        write(x, 60, 62);
        x.give();
        CHECK.due("20: with two", x.tried(), 6);
        x.number(14, 0);
        CHECK.due("20: without semitones", x.tried(), 4);
        x.drop();
        x.drop();
        CHECK.due("20: NONE", x.tried(), NONE);
    }

    /** 21: each at its most: 3 lines, n of 12, N of 45, and 45 notes of the draft, the TRY and the line found. */
    private static void toldOfTheFull() {
        SpeciesSolver x = manyFaults(45);
        onlyRule(x, NONE);
        x.solve();
        writeLike(x, 60, 45);
        int[] due = {3, 12, 45, 45, 45, 45};
        for (int what = 0; what <= 5; what++) {
            CHECK.due("21: told(" + what + ")", x.told(what), due[what]);
        }
        x.species(2, true);
        CHECK.due("21: N of two to a note", x.told(2), 23);
        CHECK.due("21: of the TRY still", x.told(4), 45);
        CHECK.due("21: of the line found still", x.told(5), 45);
    }

    /** 21: "n, 0 without (1), N, 0 without (2)". */
    private static void toldOfTheEmpty() {
        int[] species = {1, 2, 4};
        for (int k : species) {
            SpeciesSolver x = new SpeciesSolver();
            x.species(k, true);
            CHECK.due("21: n without", x.told(1), 0);
            CHECK.due("21: N without", x.told(2), 0);
            write(x, 60, 60);
            x.give();
            CHECK.due("21: n", x.told(1), 2);
            CHECK.due("21: N", x.told(2), k + 1);
            x.drop();
            CHECK.due("21: n without again", x.told(1), 0);
            CHECK.due("21: N without again", x.told(2), 0);
        }
    }

    /** 21: "NONE: another what." */
    private static void toldOfNoSuch() {
        SpeciesSolver x = manyFaults(45);
        CHECK.due("21: told(-1)", x.told(-1), NONE);
        CHECK.due("21: told(6)", x.told(6), NONE);
        for (int what : FAR) {
            CHECK.due("21: told(" + what + ")", x.told(what), NONE);
        }
    }

    /** "An object is used for at most 512 calls after it has been made": the last are answered as the first are. */
    private static void calls512() {
        SpeciesSolver x = longest();
        int calls = 44;
        for (int i = 0; i < 233; i++) {
            x.number(14, 900 - i);
            x.solve();
            calls += 2;
        }
        SpeciesSolver y = longest();
        y.number(14, 900 - 232);
        CHECK.due("a line is found", y.solve(), 1);
        CHECK.due("calls until now", calls, 510);
        CHECK.due("the 511th", x.count(), y.count());
        CHECK.due("the 512th", x.cost(), y.cost());
    }

    /** 44 calls: three lines of 12 notes, SPECIES 4, and the rules off that no line would keep. */
    private static SpeciesSolver longest() {
        SpeciesSolver x = new SpeciesSolver();
        for (int line = 0; line < 3; line++) {
            writeLeaps(x, 12);
            x.give();
        }
        x.species(4, true);
        int[] off = {0, 1, 3, 9};
        for (int rule : off) {
            x.rule(rule, false);
        }
        return x;
    }
}
