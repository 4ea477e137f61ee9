/** The edges of promises 1 to 16: each test quotes the sentence whose edge it is. */
public final class PromiseEdgeTest extends Solvers {
    private static final Check CHECK = new Check("PromiseEdgeTest");
    private static final int[] AT_FIRST = {2741, 60, 72, 921, 129, 129, 1, 3136, 2, 12, 4, 1, 5, 3, 1, 2, 1, 1};
    private static final int[] LEAST = {0, 0, 0, 0, 0, 0, 0, 0, 1, 1, 1, 1, 0, 0, 0, 0, 0, 0};
    private static final int[] MOST = {4095, 127, 127, 4095, 4095, 4095, 4095, 33554431, 12, 24, 24, 3,
        1000, 1000, 1000, 1000, 1000, 1000};

    public static void main(String[] args) {
        nothingIsGivenAtFirst();
        speciesAtFirst();
        rulesAtFirst();
        numbersAtFirst();
        objectsShareNothing();
        draftOf45();
        draftBeginsAgain();
        giveAnswersTheNumber();
        giveEmptiesTheDraft();
        attemptInPlace();
        attemptOf45();
        dropTheLastOne();
        speciesThatThereAre();
        rulesThatThereAre();
        numbersThatTheyMayBe();
        bitsThatTheyHaveNot();
        numbersThatThereAre();
        choiceIsNone();
        solveFindsOneOrNone();
        whatWasFoundStays();
        foundHasEnds();
        costOfNothing();
        countWraps();
        tiesWrap();
        tiesOfNone();
        reachOfEachRule();
        reachBetween();
        reachOfWeakNotes();
        CHECK.end();
    }

    /** 1: "Nothing is given .. no TRY; nothing was found." */
    private static void nothingIsGivenAtFirst() {
        SpeciesSolver x = new SpeciesSolver();
        for (int what = 0; what <= 5; what++) {
            CHECK.due("1: told(" + what + ")", x.told(what), 0);
        }
        CHECK.due("1: nothing to drop", x.drop(), false);
        CHECK.due("1: found(0)", x.found(0), NONE);
        CHECK.due("1: cost()", x.cost(), NONE);
        CHECK.due("1: fault(0, 0)", x.fault(0, 0), NONE);
        CHECK.due("1: judge()", x.judge(), NONE);
        CHECK.due("1: tried()", x.tried(), NONE);
        CHECK.due("1: solve()", x.solve(), NONE);
        write(x, 60, 62);
        x.give();
        CHECK.due("1: no TRY to judge", x.judge(), NONE);
        CHECK.due("1: no TRY to price", x.tried(), NONE);
        CHECK.due("1: nothing found to keep", x.keep(), NONE);
    }

    /** 1: "SPECIES 1, the new line is ABOVE". */
    private static void speciesAtFirst() {
        SpeciesSolver x = given(60, 60, 60);
        CHECK.due("1: N is n", x.told(2), 3);
        onlyRule(x, 3);
        CHECK.due("1: ABOVE", judged(x, 59, 60, 61), "3 0 0");
    }

    /** 1: "RULES .. as at first": each is on, and has a line that breaks it. */
    private static void rulesAtFirst() {
        int[] species = {1, 1, 1, 1, 2, 1, 1, 1, 1, 1, 1};
        int[][] lines = {{61, 60, 60}, {60, 62, 60}, {55, 62, 60}, {59, 60, 60}, {60, 61, 60, 60, 60},
            {60, 73, 60}, {60, 65, 65}, {60, 60, 62}, {64, 60, 60}, {60, 60, 64}, {60, 59, 60}};
        for (int rule = 0; rule < RULES; rule++) {
            SpeciesSolver x = given(60, 62, 60);
            x.species(species[rule], true);
            String all = ", " + judged(x, lines[rule]);
            CHECK.due("1: rule " + rule + " is on: " + all, all.contains(", " + rule + " "), true);
            x.rule(rule, false);
            x.judge();
            String left = ", " + faults(x, 99);
            CHECK.due("1: rule " + rule + " is off: " + left, left.contains(", " + rule + " "), false);
        }
    }

    /** 1: "NUMBERS as at first". */
    private static void numbersAtFirst() {
        SpeciesSolver x = new SpeciesSolver();
        for (int which = 0; which < NUMBERS; which++) {
            CHECK.due("1: setting(" + which + ")", x.setting(which), AT_FIRST[which]);
        }
    }

    /** 1: what one object holds is not what another one does. */
    private static void objectsShareNothing() {
        SpeciesSolver x = only(NONE, 4, 2, 60, 60);
        for (int which = 0; which < NUMBERS; which++) {
            x.number(which, LEAST[which]);
        }
        writeLike(x, 60, 5);
        x.attempt();
        x.note(60);
        nothingIsGivenAtFirst();
        speciesAtFirst();
        numbersAtFirst();
        CHECK.due("1: the other stays", x.told(4), 5);
    }

    /** 2: "Answers how many it has; NONE when .. it has 45." */
    private static void draftOf45() {
        SpeciesSolver x = new SpeciesSolver();
        for (int size = 1; size <= 45; size++) {
            CHECK.due("2: note " + size, x.note(size), size);
            CHECK.due("2: of the draft", x.told(3), size);
        }
        CHECK.due("2: a 46th", x.note(60), NONE);
        CHECK.due("2: a 46th that is no PITCH", x.note(128), NONE);
        CHECK.due("2: still 45", x.told(3), 45);
    }

    /** 2: "comes behind the draft": which is empty behind give() and attempt(). */
    private static void draftBeginsAgain() {
        SpeciesSolver x = new SpeciesSolver();
        write(x, 60, 62);
        x.give();
        CHECK.due("2: behind give()", x.note(60), 1);
        x.attempt();
        CHECK.due("2: behind attempt()", x.note(60), 1);
        x.give();
        CHECK.due("2: behind a give() that was refused", x.note(60), 2);
    }

    /** 3: "Answers its number". */
    private static void giveAnswersTheNumber() {
        SpeciesSolver x = new SpeciesSolver();
        int[] numbers = {0, 1, 2, NONE, NONE};
        for (int due : numbers) {
            x.attempt();
            write(x, 60, 62);
            CHECK.due("3: give()", x.give(), due);
        }
        x.drop();
        CHECK.due("3: the number is free again", x.give(), 2);
        x.drop();
        x.drop();
        x.drop();
        writeLike(x, 60, 12);
        CHECK.due("3: and so is n", x.give(), 0);
    }

    /** 3: "The draft becomes a given line, and is empty then": a later draft leaves the line alone. */
    private static void giveEmptiesTheDraft() {
        SpeciesSolver x = only(3, 1, 2, 60, 64);
        CHECK.due("3: empty", x.told(3), 0);
        CHECK.due("3: the notes of the line", judged(x, 59, 63), "3 0 0, 3 1 0");
        CHECK.due("3: and no others", judged(x, 60, 64), "");
    }

    /** 4: "The draft becomes the TRY, in place of one before": longer, shorter and empty ones. */
    private static void attemptInPlace() {
        SpeciesSolver x = only(3, 2, 2, 60, 60);
        int[] sizes = {45, 0, 1, 3, 2, 0, 3};
        for (int size : sizes) {
            writeLike(x, 59, size);
            CHECK.due("4: attempt() of " + size, x.attempt(), size);
            CHECK.due("4: the TRY", x.told(4), size);
            CHECK.due("4: the draft", x.told(3), 0);
            CHECK.due("4: only the one of N is judged", x.judge(), size == 3 ? 3 : NONE);
        }
        CHECK.due("4: no note of one before is left", judged(x, 60, 60, 59), "3 2 0");
    }

    /** 4: the TRY may have all the notes that a draft may. */
    private static void attemptOf45() {
        SpeciesSolver x = only(3, 4, 12, new int[12]);
        x.species(4, false);
        writeLike(x, 0, 44);
        x.note(1);
        CHECK.due("4: 45 notes", x.attempt(), 45);
        CHECK.due("4: the 45th is judged", x.judge(), 1);
        CHECK.due("4: it is note 44", faults(x, 2), "3 44 0");
    }

    /** 5: "The last given line is gone: whether there was one." */
    private static void dropTheLastOne() {
        SpeciesSolver x = only(3, 1, 2, 60, 60, 61, 61, 62, 62);
        CHECK.due("5: three", judged(x, 0, 0), "3 0 0, 3 0 1, 3 0 2, 3 1 0, 3 1 1, 3 1 2");
        CHECK.due("5: the third", x.drop(), true);
        CHECK.due("5: two are left", judged(x, 60, 61), "3 0 1");
        CHECK.due("5: the second", x.drop(), true);
        CHECK.due("5: one is left", judged(x, 60, 59), "3 1 0");
        CHECK.due("5: n stays", x.told(1), 2);
        CHECK.due("5: the first", x.drop(), true);
        CHECK.due("5: no n", x.told(1), 0);
        CHECK.due("5: no N", x.told(2), 0);
        CHECK.due("5: there was none", x.drop(), false);
        CHECK.due("5: still none", x.told(0), 0);
    }

    /** 6: "false when k is not 1, 2 or 4." */
    private static void speciesThatThereAre() {
        SpeciesSolver x = given(60, 60);
        int total = 2;
        for (int k = -9; k <= 9; k++) {
            boolean taken = k == 1 || k == 2 || k == 4;
            total = taken ? k + 1 : total;
            CHECK.due("6: species " + k, x.species(k, true), taken);
            CHECK.due("6: N after " + k, x.told(2), total);
        }
        for (int k : FAR) {
            CHECK.due("6: species " + k, x.species(k, true), false);
        }
        CHECK.due("6: K stays", x.told(2), 5);
    }

    /** 7: "false when there is none such." */
    private static void rulesThatThereAre() {
        SpeciesSolver x = new SpeciesSolver();
        for (int rule = -3; rule <= 14; rule++) {
            CHECK.due("7: rule " + rule + " off", x.rule(rule, false), rule >= 0 && rule <= 10);
            CHECK.due("7: rule " + rule + " on", x.rule(rule, true), rule >= 0 && rule <= 10);
        }
        for (int rule : FAR) {
            CHECK.due("7: rule " + rule, x.rule(rule, true), false);
        }
    }

    /** 8: "v is none that it may be": the last that is taken and the first that is refused, at both ends. */
    private static void numbersThatTheyMayBe() {
        for (int which = 0; which < NUMBERS; which++) {
            SpeciesSolver x = new SpeciesSolver();
            String name = "8: number " + which;
            CHECK.due(name + " most", x.number(which, MOST[which]), true);
            CHECK.due(name + " is it", x.setting(which), MOST[which]);
            CHECK.due(name + " one more", x.number(which, MOST[which] + 1), false);
            CHECK.due(name + " one less than least", x.number(which, LEAST[which] - 1), false);
            CHECK.due(name + " stays", x.setting(which), MOST[which]);
            CHECK.due(name + " least", x.number(which, LEAST[which]), true);
            CHECK.due(name + " is it", x.setting(which), LEAST[which]);
            for (int v : FAR) {
                CHECK.due(name + " " + v, x.number(which, v), false);
            }
            CHECK.due(name + " stays", x.setting(which), LEAST[which]);
            for (int other = 0; other < NUMBERS; other++) {
                if (other != which) {
                    CHECK.due(name + " changes no other", x.setting(other), AT_FIRST[other]);
                }
            }
        }
    }

    /** 8: "(also bits that it has not)". */
    private static void bitsThatTheyHaveNot() {
        int[] masks = {0, 3, 4, 5, 6, 7};
        for (int which : masks) {
            SpeciesSolver x = new SpeciesSolver();
            int bits = which == 7 ? 25 : 12;
            for (int bit = 0; bit < 32; bit++) {
                CHECK.due("8: bit " + bit + " of " + which, x.number(which, 1 << bit), bit < bits);
                CHECK.due("8: with bit 0", x.number(which, 1 | 1 << bit), bit < bits);
            }
            CHECK.due("8: the last taken", x.setting(which), 1 | 1 << bits - 1);
        }
    }

    /** 8 and 9: "when there is none such". */
    private static void numbersThatThereAre() {
        SpeciesSolver x = new SpeciesSolver();
        for (int which = -3; which <= 20; which++) {
            boolean is = which >= 0 && which <= 17;
            CHECK.due("8: number " + which, x.number(which, 1), is);
            CHECK.due("9: setting " + which, x.setting(which), is ? 1 : NONE);
        }
        for (int which : FAR) {
            CHECK.due("8: number " + which, x.number(which, 1), false);
            CHECK.due("9: setting " + which, x.setting(which), NONE);
        }
    }

    /** 10: "NONE when they are more than 8." */
    private static void choiceIsNone() {
        SpeciesSolver x = new SpeciesSolver();
        CHECK.due("10: eight at first", x.choice(), 8);
        x.number(2, 73);
        CHECK.due("10: 73 is not in MODE", x.choice(), 8);
        x.number(2, 74);
        CHECK.due("10: nine", x.choice(), NONE);
        x.number(1, 61);
        CHECK.due("10: without the lowest", x.choice(), 8);
        x.number(0, 4095);
        CHECK.due("10: fourteen", x.choice(), NONE);
        x.number(1, 67);
        CHECK.due("10: eight", x.choice(), 8);
    }

    /** 11: "is found: 1; 0 when there is none (nothing is found then)". */
    private static void solveFindsOneOrNone() {
        SpeciesSolver x = only(8, 1, 2, 60, 60);
        range(x, 60, 60);
        CHECK.due("11: there is one", x.solve(), 1);
        CHECK.due("11: it is found", line(x), "60 60");
        x.number(5, 0);
        CHECK.due("11: there is none", x.solve(), 0);
        CHECK.due("12: nothing is found then", x.found(0), NONE);
        CHECK.due("13: nothing is found then", x.cost(), NONE);
        CHECK.due("17: nothing is found then", x.keep(), NONE);
        CHECK.due("21: nothing is found then", x.told(5), 0);
        x.number(5, 1);
        CHECK.due("11: there is one again", x.solve(), 1);
        CHECK.due("11: it is found again", line(x), "60 60");
    }

    /** 11: "NONE when no line is given, or THE CHOICE is NONE (what was found stays)." */
    private static void whatWasFoundStays() {
        SpeciesSolver x = only(NONE, 4, 2, 60, 60);
        range(x, 60, 60);
        x.solve();
        range(x, 60, 74);
        CHECK.due("11: THE CHOICE is NONE", x.solve(), NONE);
        CHECK.due("12: it stays", line(x), "60 60 60 60 60");
        CHECK.due("13: it stays", x.cost(), 20);
        x.drop();
        CHECK.due("11: both", x.solve(), NONE);
        range(x, 60, 60);
        CHECK.due("11: no line is given", x.solve(), NONE);
        x.number(0, 0);
        CHECK.due("11: no line is given, and none could be", x.solve(), NONE);
        CHECK.due("12: it stays", line(x), "60 60 60 60 60");
        CHECK.due("13: it stays", x.cost(), 20);
    }

    /** 12: "Note i of the line found; NONE when there is none." */
    private static void foundHasEnds() {
        int[] lengths = {2, 12};
        for (int n : lengths) {
            SpeciesSolver x = only(3, 4, n, new int[n]);
            range(x, 127, 127);
            x.solve();
            int last = 4 * (n - 1);
            CHECK.due("12: before the first", x.found(-1), NONE);
            CHECK.due("12: the first", x.found(0), 127);
            CHECK.due("12: the last", x.found(last), 127);
            CHECK.due("12: behind the last", x.found(last + 1), NONE);
            CHECK.due("12: note 45", x.found(45), NONE);
            for (int i : FAR) {
                CHECK.due("12: far from them", x.found(i), NONE);
            }
            x.species(1, true);
            x.solve();
            CHECK.due("12: of a shorter one the last", x.found(n - 1), 127);
            CHECK.due("12: none is left of the longer one", x.found(n), NONE);
        }
    }

    /** 13: "NONE when none is": a COST of 0 is one. */
    private static void costOfNothing() {
        SpeciesSolver x = only(NONE, 1, 2, 60, 60);
        noCosts(x);
        CHECK.due("13: before solve()", x.cost(), NONE);
        x.count();
        CHECK.due("13: count() finds nothing", x.cost(), NONE);
        x.solve();
        CHECK.due("13: nothing costs", x.cost(), 0);
        x.number(0, 0);
        x.solve();
        CHECK.due("13: none is", x.cost(), NONE);
    }

    /** N notes that may each be any of so many. */
    private static SpeciesSolver free(int species, int n, int size) {
        SpeciesSolver x = only(NONE, species, n, new int[n]);
        noCosts(x);
        x.number(0, 4095);
        range(x, 60, 59 + size);
        return x;
    }

    private static long power(long base, int exponent) {
        long product = 1;
        for (int i = 0; i < exponent; i++) {
            product *= base;
        }
        return product;
    }

    /** 14: "How many lines KEEP the rules (wrapping)". */
    private static void countWraps() {
        CHECK.due("14: 8 to the 19th", free(2, 10, 8).count(), 1L << 57);
        CHECK.due("14: 8 to the 21st is one more than the greatest", free(2, 11, 8).count(), Long.MIN_VALUE);
        CHECK.due("14: 8 to the 23rd", free(2, 12, 8).count(), 0);
        CHECK.due("14: 2 to the 45th", free(4, 12, 2).count(), 1L << 45);
        for (int size = 3; size <= 7; size++) {
            CHECK.due("14: " + size + " to the 45th", free(4, 12, size).count(), power(size, 45));
        }
    }

    /** 15: "How many of these have the least COST (wrapping)". */
    private static void tiesWrap() {
        CHECK.due("15: 8 to the 21st", free(2, 11, 8).ties(), Long.MIN_VALUE);
        SpeciesSolver x = free(2, 12, 8);
        CHECK.due("15: 8 to the 23rd", x.ties(), 0);
        CHECK.due("11: there are lines all the same", x.solve(), 1);
        CHECK.due("13: at no COST", x.cost(), 0);
        x.number(12, 1);
        CHECK.due("15: those without a MOVE of 0", x.ties(), 8 * power(7, 22));
        CHECK.due("14: are not all", x.count(), 0);
        x.number(12, 0);
        x.number(14, 1000);
        CHECK.due("15: those that never move", x.ties(), 8);
    }

    /** 15: "0 when there are none". */
    private static void tiesOfNone() {
        SpeciesSolver x = only(8, 1, 2, 60, 60);
        x.number(5, 0);
        CHECK.due("14: none", x.count(), 0);
        CHECK.due("15: none", x.ties(), 0);
        x.drop();
        CHECK.due("14: NONE as solve()", x.count(), NONE);
        CHECK.due("15: NONE as solve()", x.ties(), NONE);
        CHECK.due("16: NONE as solve()", x.reach(), NONE);
    }

    /** One PITCH to choose, and one rule on. */
    private static SpeciesSolver alone(int rule, int species, int pitch, int... line) {
        SpeciesSolver x = only(rule, species, line.length, line);
        x.number(0, 4095);
        range(x, pitch, pitch);
        return x;
    }

    /** 16: "breaks none of the rules 0 to 8": each of them ends a beginning, 9 and 10 do not. */
    private static void reachOfEachRule() {
        CHECK.due("16: rule 0", alone(0, 1, 60, 60, 60, 61, 60).reach(), 2);
        SpeciesSolver x = only(0, 1, 2, 60, 62);
        x.number(3, 1);
        range(x, 60, 62);
        CHECK.due("16: without rule 1", x.reach(), 2);
        x.rule(1, true);
        CHECK.due("16: rule 1", x.reach(), 1);
        SpeciesSolver y = only(0, 1, 2, 60, 67);
        y.number(3, 1 << 4 | 1);
        y.number(0, 1 << 4 | 1 << 7);
        range(y, 64, 67);
        CHECK.due("16: without rule 2", y.reach(), 2);
        y.rule(2, true);
        CHECK.due("16: rule 2", y.reach(), 1);
        CHECK.due("16: rule 3", alone(3, 4, 60, 60, 61, 60).reach(), 4);
        SpeciesSolver z = alone(5, 1, 60, 60, 60, 60);
        z.number(7, 1);
        CHECK.due("16: rule 5", z.reach(), 1);
        for (int repeats = 1; repeats <= 3; repeats++) {
            SpeciesSolver s = alone(7, 4, 60, 60, 60);
            s.number(11, repeats);
            CHECK.due("16: rule 7", s.reach(), repeats);
        }
        CHECK.due("16: rule 8", alone(8, 1, 61, 60, 60).reach(), 0);
        CHECK.due("16: rule 9", alone(9, 1, 61, 60, 60).reach(), 2);
        CHECK.due("16: no line keeps rule 9", alone(9, 1, 61, 60, 60).count(), 0);
        CHECK.due("16: rule 10", alone(10, 4, 61, 60, 60).reach(), 5);
        CHECK.due("16: no line keeps rule 10", alone(10, 4, 61, 60, 60).count(), 0);
    }

    /** 16: "The greatest number of notes, up to N": 0, all between and N. */
    private static void reachBetween() {
        for (int good = 0; good <= 12; good++) {
            SpeciesSolver x = new SpeciesSolver();
            writeLike(x, 60, good);
            writeLike(x, 61, 12 - good);
            x.give();
            onlyRule(x, 3);
            range(x, 60, 60);
            CHECK.due("16: so many may be 60", x.reach(), good);
            CHECK.due("14: a line that gets to its end", x.count(), good == 12 ? 1 : 0);
        }
        SpeciesSolver y = only(6, 1, 3, 60, 60, 60);
        y.rule(7, true);
        y.number(0, 1);
        range(y, 60, 72);
        CHECK.due("16: rule 6 asks for the next MOVE alone", y.reach(), 2);
    }

    /** 16: "(4 is asked of notes behind which there is one)". */
    private static void reachOfWeakNotes() {
        int[] species = {2, 4};
        for (int k : species) {
            SpeciesSolver x = alone(4, k, 60, 60, 60);
            x.number(3, 0);
            CHECK.due("16: note 1 is HARD, and may come last", x.reach(), 2);
            x.rule(4, false);
            CHECK.due("16: rule 4 is off", x.reach(), k + 1);
        }
        SpeciesSolver y = only(4, 4, 2, 60, 60);
        y.number(3, 0);
        y.number(0, 4095);
        // all three weak notes are HARD, so that the line goes up or down all the way
        for (int most = 1; most <= 5; most++) {
            range(y, 60, 59 + most);
            CHECK.due("16: with " + most + " to choose", y.reach(), most == 1 ? 2 : most);
        }
    }
}
