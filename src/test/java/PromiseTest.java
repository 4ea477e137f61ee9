/** Each promise by its number: ordinary inputs, the edges that the document names, and wrong inputs. */
public final class PromiseTest extends Solvers {
    private static final Check CHECK = new Check("PromiseTest");
    private static final int[] AT_FIRST = {2741, 60, 72, 921, 129, 129, 1, 3136, 2, 12, 4, 1, 5, 3, 1, 2, 1, 1};
    private static final int[] WRONG = {-1, Integer.MIN_VALUE, Integer.MAX_VALUE};

    public static void main(String[] args) {
        newObject();
        note();
        give();
        attempt();
        drop();
        species();
        rule();
        numberRanges();
        numberRefused();
        choice();
        solveFinds();
        solveFindsNothing();
        solveRefused();
        lowestOfLeast();
        foundStays();
        countAndTies();
        reach();
        keep();
        keepRefused();
        keepAfterOtherSpecies();
        judge();
        judgeRefused();
        faultsStay();
        manyFaults();
        tried();
        told();
        CHECK.end();
    }

    private static SpeciesSolver withoutRules(int... pitches) {
        return only(NONE, 1, pitches.length, pitches);
    }

    private static void newObject() {
        SpeciesSolver x = new SpeciesSolver();
        for (int what = 0; what < 6; what++) {
            CHECK.due("1: told(" + what + ")", x.told(what), 0);
        }
        for (int which = 0; which < 18; which++) {
            CHECK.due("1: setting(" + which + ")", x.setting(which), AT_FIRST[which]);
        }
        CHECK.due("1: cost()", x.cost(), NONE);
        CHECK.due("1: found(0)", x.found(0), NONE);
        CHECK.due("1: fault(0, 0)", x.fault(0, 0), NONE);
        write(x, 60, 62);
        x.give();
        CHECK.due("1: SPECIES is 1", x.told(2), 2);
        write(x, 59, 61);
        x.attempt();
        CHECK.due("1: judge()", x.judge(), 6);
        CHECK.due("1: ABOVE, and all rules are on", faults(x, 9), "0 0 -1, 3 0 0, 8 0 -1, 0 1 -1, 3 1 0, 9 1 -1");
    }

    private static void note() {
        SpeciesSolver x = new SpeciesSolver();
        CHECK.due("2: note(0)", x.note(0), 1);
        CHECK.due("2: note(127)", x.note(127), 2);
        CHECK.due("2: note(128)", x.note(128), NONE);
        for (int pitch : WRONG) {
            CHECK.due("2: note(" + pitch + ")", x.note(pitch), NONE);
        }
        CHECK.due("2: refused notes do not come", x.told(3), 2);
        for (int i = 3; i <= 45; i++) {
            CHECK.due("2: note(" + i + ")", x.note(i), i);
        }
        CHECK.due("2: note 46", x.note(60), NONE);
        CHECK.due("2: the draft has 45", x.told(3), 45);
        CHECK.due("2: attempt()", x.attempt(), 45);
        CHECK.due("2: note behind attempt", x.note(60), 1);
    }

    private static void give() {
        SpeciesSolver x = new SpeciesSolver();
        CHECK.due("3: nothing", x.give(), NONE);
        write(x, 60);
        CHECK.due("3: one note", x.give(), NONE);
        CHECK.due("3: the draft stays", x.told(3), 1);
        write(x, 62);
        CHECK.due("3: two notes", x.give(), 0);
        CHECK.due("3: the draft is empty", x.told(3), 0);
        write(x, 60, 62, 64);
        CHECK.due("3: three against two", x.give(), NONE);
        x.attempt();
        write(x, 64, 65);
        CHECK.due("3: second", x.give(), 1);
        write(x, 64, 65);
        CHECK.due("3: third", x.give(), 2);
        write(x, 64, 65);
        CHECK.due("3: fourth", x.give(), NONE);
        CHECK.due("3: the draft stays", x.told(3), 2);
        SpeciesSolver y = new SpeciesSolver();
        write(y, 1, 2, 3, 4, 5, 6, 7, 8, 9, 10, 11, 12, 13);
        CHECK.due("3: thirteen", y.give(), NONE);
        y.attempt();
        write(y, 1, 2, 3, 4, 5, 6, 7, 8, 9, 10, 11, 12);
        CHECK.due("3: twelve", y.give(), 0);
        y.drop();
        write(y, 1, 2, 3);
        CHECK.due("3: any n when none is left", y.give(), 0);
        CHECK.due("3: n", y.told(1), 3);
    }

    private static void attempt() {
        SpeciesSolver x = given(60, 62);
        CHECK.due("4: empty", x.attempt(), 0);
        write(x, 72, 74);
        CHECK.due("4: two", x.attempt(), 2);
        CHECK.due("4: the draft is empty", x.told(3), 0);
        CHECK.due("4: it can be judged", x.judge(), 1);
        write(x, 67, 69, 71);
        CHECK.due("4: in place of one before", x.attempt(), 3);
        CHECK.due("4: the TRY", x.told(4), 3);
        CHECK.due("4: has not N notes", x.judge(), NONE);
        CHECK.due("4: empty in place", x.attempt(), 0);
        CHECK.due("4: no TRY", x.told(4), 0);
    }

    private static void drop() {
        SpeciesSolver x = new SpeciesSolver();
        CHECK.due("5: nothing", x.drop(), false);
        write(x, 60, 62);
        x.give();
        write(x, 64, 66);
        x.give();
        CHECK.due("5: second", x.drop(), true);
        CHECK.due("5: one is left", x.told(0), 1);
        CHECK.due("5: n stays", x.told(1), 2);
        x.rule(9, false);
        write(x, 67, 69);
        x.attempt();
        CHECK.due("5: the last one is gone", x.judge(), 1);
        CHECK.due("5: against the first", faults(x, 3), "1 1 0");
        CHECK.due("5: first", x.drop(), true);
        CHECK.due("5: n", x.told(1), 0);
        CHECK.due("5: none is left", x.drop(), false);
    }

    private static void species() {
        SpeciesSolver x = given(60, 62, 64);
        CHECK.due("6: 4", x.species(4, true), true);
        CHECK.due("6: N of 4", x.told(2), 9);
        CHECK.due("6: 2", x.species(2, true), true);
        CHECK.due("6: N of 2", x.told(2), 5);
        int[] none = {0, 3, 5, 8, -1, -2, Integer.MIN_VALUE, Integer.MAX_VALUE};
        for (int k : none) {
            CHECK.due("6: species " + k, x.species(k, false), false);
        }
        CHECK.due("6: N stays", x.told(2), 5);
        for (int rule = 0; rule < 11; rule++) {
            x.rule(rule, rule == 3);
        }
        write(x, 72, 72, 72, 72, 50);
        x.attempt();
        x.judge();
        CHECK.due("6: ABOVE stays", faults(x, 9), "3 4 0");
        CHECK.due("6: below", x.species(2, false), true);
        x.judge();
        CHECK.due("6: below", faults(x, 9), "3 0 0, 3 1 0, 3 2 0, 3 3 0");
        CHECK.due("6: 1", x.species(1, true), true);
        CHECK.due("6: N of 1", x.told(2), 3);
    }

    private static void rule() {
        SpeciesSolver x = given(60, 62);
        int[] none = {-1, 11, Integer.MIN_VALUE, Integer.MAX_VALUE};
        for (int rule : none) {
            CHECK.due("7: rule " + rule, x.rule(rule, false), false);
        }
        write(x, 59, 59);
        x.attempt();
        CHECK.due("7: all", x.judge(), 7);
        // rule 3 has two faults, and 0, 7, 8, 9 and 10 have one each
        int[] left = {6, 6, 6, 4, 4, 4, 4, 3, 2, 1, 0};
        for (int rule = 0; rule < 11; rule++) {
            CHECK.due("7: rule " + rule + " off", x.rule(rule, false), true);
            CHECK.due("7: without 0 to " + rule, x.judge(), left[rule]);
        }
        CHECK.due("7: on again", x.rule(7, true), true);
        CHECK.due("7: rule 7 alone", x.judge(), 1);
        x.rule(7, true);
        CHECK.due("7: on twice", faults(x, 2), "7 1 -1");
    }

    private static void numberRanges() {
        int[] least = {0, 0, 0, 0, 0, 0, 0, 0, 1, 1, 1, 1, 0, 0, 0, 0, 0, 0};
        int[] most = {4095, 127, 127, 4095, 4095, 4095, 4095, (1 << 25) - 1, 12, 24, 24, 3,
            1000, 1000, 1000, 1000, 1000, 1000};
        SpeciesSolver x = new SpeciesSolver();
        for (int which = 0; which < 18; which++) {
            String name = "8: number " + which;
            CHECK.due(name + " least", x.number(which, least[which]), true);
            CHECK.due("9: setting " + which, x.setting(which), least[which]);
            CHECK.due(name + " below", x.number(which, least[which] - 1), false);
            CHECK.due("9: setting stays " + which, x.setting(which), least[which]);
            CHECK.due(name + " most", x.number(which, most[which]), true);
            CHECK.due("9: setting " + which, x.setting(which), most[which]);
            CHECK.due(name + " above", x.number(which, most[which] + 1), false);
            CHECK.due(name + " far above", x.number(which, Integer.MAX_VALUE), false);
            CHECK.due(name + " far below", x.number(which, Integer.MIN_VALUE), false);
            CHECK.due("9: setting stays " + which, x.setting(which), most[which]);
        }
    }

    private static void numberRefused() {
        SpeciesSolver x = new SpeciesSolver();
        int[] none = {-1, 18, Integer.MIN_VALUE, Integer.MAX_VALUE};
        for (int which : none) {
            CHECK.due("8: number " + which, x.number(which, 1), false);
            CHECK.due("9: setting " + which, x.setting(which), NONE);
        }
        for (int which = 0; which < 18; which++) {
            CHECK.due("8: nothing is changed", x.setting(which), AT_FIRST[which]);
        }
    }

    private static void choice() {
        SpeciesSolver x = new SpeciesSolver();
        CHECK.due("10: at first", x.choice(), 8);
        x.number(2, 74);
        CHECK.due("10: nine", x.choice(), NONE);
        x.number(1, 62);
        CHECK.due("10: eight", x.choice(), 8);
        range(x, 70, 70);
        CHECK.due("10: not in MODE", x.choice(), 0);
        range(x, 71, 71);
        CHECK.due("10: LOW is HIGH", x.choice(), 1);
        range(x, 72, 60);
        CHECK.due("10: LOW above HIGH", x.choice(), 0);
        range(x, 0, 127);
        CHECK.due("10: all", x.choice(), NONE);
        x.number(0, 1 << 7);
        CHECK.due("10: eleven G", x.choice(), NONE);
        x.number(1, 32);
        CHECK.due("10: eight G", x.choice(), 8);
        x.number(0, 0);
        CHECK.due("10: no MODE", x.choice(), 0);
    }

    private static void solveFinds() {
        SpeciesSolver x = given(60, 62, 64, 62, 60);
        CHECK.due("11: solve()", x.solve(), 1);
        CHECK.due("12: the line", line(x), "67 65 67 71 72");
        CHECK.due("13: cost()", x.cost(), 14);
        CHECK.due("12: found(5)", x.found(5), NONE);
        for (int i : WRONG) {
            CHECK.due("12: found(" + i + ")", x.found(i), NONE);
        }
        SpeciesSolver y = withoutRules(60, 64, 62);
        range(y, 60, 62);
        y.species(4, true);
        CHECK.due("11: species 4", y.solve(), 1);
        // a step of 2 costs less than to stay; of both lines without one this has 62, which is HARD, less often weak
        CHECK.due("12: nine notes", line(y), "62 60 62 60 62 60 62 60 62");
        CHECK.due("13: sixteen semitones, and two HARD notes", y.cost(), 18);
    }

    private static void solveFindsNothing() {
        SpeciesSolver x = given(60, 62, 64, 62, 60);
        x.solve();
        x.number(0, 0);
        CHECK.due("11: an empty CHOICE", x.solve(), 0);
        CHECK.due("12: nothing is found", x.found(0), NONE);
        CHECK.due("13: nothing is found", x.cost(), NONE);
        CHECK.due("14: none", x.count(), 0);
        CHECK.due("15: none", x.ties(), 0);
        CHECK.due("16: none", x.reach(), 0);
        CHECK.due("17: none", x.keep(), NONE);
        CHECK.due("21: none", x.told(5), 0);
        x.rule(10, false);
        CHECK.due("11: without rule 10", x.solve(), 0);
        CHECK.due("16: without rule 10", x.reach(), 0);
    }

    private static void solveRefused() {
        SpeciesSolver x = new SpeciesSolver();
        CHECK.due("11: no line", x.solve(), NONE);
        CHECK.due("14: no line", x.count(), NONE);
        CHECK.due("15: no line", x.ties(), NONE);
        CHECK.due("16: no line", x.reach(), NONE);
        SpeciesSolver y = given(60, 62, 64, 62, 60);
        y.solve();
        y.number(2, 74);
        CHECK.due("11: nine", y.solve(), NONE);
        CHECK.due("14: nine", y.count(), NONE);
        CHECK.due("15: nine", y.ties(), NONE);
        CHECK.due("16: nine", y.reach(), NONE);
        CHECK.due("11: what was found stays", line(y), "67 65 67 71 72");
        y.drop();
        CHECK.due("11: dropped", y.solve(), NONE);
        CHECK.due("13: its cost stays", y.cost(), 14);
    }

    private static void lowestOfLeast() {
        SpeciesSolver x = withoutRules(60, 60, 60);
        range(x, 60, 64);
        for (int which = 12; which < 18; which++) {
            x.number(which, 0);
        }
        x.solve();
        CHECK.due("11: all cost 0", line(x), "60 60 60");
        CHECK.due("13: cost 0", x.cost(), 0);
        CHECK.due("15: all", x.ties(), 27);
        x.rule(10, true);
        x.solve();
        CHECK.due("11: with one highest", line(x), "60 60 62");
        CHECK.due("15: with one highest", x.ties(), 3 + 12);
        x.rule(7, true);
        x.solve();
        CHECK.due("11: and none repeated", line(x), "60 62 60");
        x.number(13, 1);
        x.number(8, 1);
        x.number(0, 1 | 1 << 1 | 1 << 4);
        x.solve();
        CHECK.due("11: and no skip", line(x), "60 61 60");
    }

    private static void foundStays() {
        SpeciesSolver x = given(60, 62, 64, 62, 60);
        x.solve();
        x.number(14, 100);
        x.rule(0, false);
        x.species(4, false);
        x.count();
        x.ties();
        x.reach();
        x.drop();
        CHECK.due("12: what was found stays", line(x), "67 65 67 71 72");
        CHECK.due("13: as it was found", x.cost(), 14);
        CHECK.due("21: five", x.told(5), 5);
    }

    private static void countAndTies() {
        SpeciesSolver x = given(60, 62, 64, 62, 60);
        CHECK.due("14: count()", x.count(), 2);
        CHECK.due("15: ties()", x.ties(), 1);
        CHECK.due("14: nothing is found by it", x.told(5), 0);
        SpeciesSolver y = withoutRules(60, 62, 64);
        range(y, 60, 72);
        CHECK.due("14: any line", y.count(), 512);
        y.rule(7, true);
        CHECK.due("14: a rule counts at once", y.count(), 8 * 7 * 7);
        y.number(11, 2);
        CHECK.due("14: a number counts at once", y.count(), 512 - 8);
        y.rule(7, false);
        y.count();
        y.species(2, true);
        CHECK.due("14: a species counts at once", y.count(), 32768);
        write(y, 60, 62, 64);
        y.give();
        y.rule(3, true);
        CHECK.due("14: above 60, 62 and 64", y.count(), 8 * 8 * 7 * 7 * 6);
        write(y, 72, 72, 72);
        y.give();
        CHECK.due("14: a line counts at once", y.count(), 1);
        y.drop();
        CHECK.due("14: a dropped one does not", y.count(), 8 * 8 * 7 * 7 * 6);
    }

    private static void reach() {
        SpeciesSolver x = given(60, 62, 64, 62, 60);
        CHECK.due("16: a whole line", x.reach(), 5);
        x.number(6, 0);
        CHECK.due("16: there is no line", x.solve(), 0);
        CHECK.due("16: rule 9 is not asked", x.reach(), 5);
        SpeciesSolver y = given(60, 62, 66, 62, 60);
        range(y, 60, 65);
        y.rule(8, false);
        CHECK.due("16: note 2 would cross", y.reach(), 2);
        y.rule(3, false);
        CHECK.due("16: a rule that is off is not asked", y.reach() > 2, true);
        SpeciesSolver z = given(60, 60);
        range(z, 62, 62);
        CHECK.due("16: no first note", z.reach(), 0);
        reachWithinSpecies();
    }

    /** A weak note that is HARD may end a beginning; behind it the line cannot go on by steps the same way. */
    private static void reachWithinSpecies() {
        SpeciesSolver x = withoutRules(60, 60);
        x.species(2, true);
        x.rule(4, true);
        x.rule(7, true);
        x.rule(0, true);
        range(x, 60, 62);
        x.number(0, 1 | 1 << 2);
        CHECK.due("16: 4 is asked of notes behind which there is one", x.reach(), 2);
        CHECK.due("11: and of the line", x.solve(), 0);
        x.rule(4, false);
        CHECK.due("16: without 4", x.reach(), 3);
        x.rule(10, true);
        x.rule(7, false);
        range(x, 60, 60);
        CHECK.due("16: 10 is not asked", x.reach(), 3);
        CHECK.due("11: 10 is asked", x.solve(), 0);
    }

    private static void keep() {
        SpeciesSolver x = given(60, 62, 64, 62, 60);
        x.solve();
        CHECK.due("17: keep()", x.keep(), 1);
        CHECK.due("17: two lines", x.told(0), 2);
        CHECK.due("17: it stays found", line(x), "67 65 67 71 72");
        CHECK.due("17: again", x.keep(), 2);
        CHECK.due("17: there are 3", x.keep(), NONE);
        CHECK.due("17: three lines", x.told(0), 3);
        for (int rule = 0; rule < 11; rule++) {
            x.rule(rule, rule == 3);
        }
        x.drop();
        x.drop();
        CHECK.due("14: against 60, 62, 64, 62 and 60", x.count(), 8 * 7 * 6 * 7 * 8);
        x.keep();
        CHECK.due("14: and against 67, 65, 67, 71 and 72", x.count(), 4 * 5 * 4 * 2);
        x.keep();
        write(x, 66, 66, 66, 72, 71);
        x.attempt();
        x.judge();
        CHECK.due("17: its notes", faults(x, 20), "3 0 1, 3 0 2, 3 2 1, 3 2 2, 3 4 1, 3 4 2");
    }

    private static void keepRefused() {
        SpeciesSolver x = given(60, 62, 64, 62, 60);
        CHECK.due("17: none is found", x.keep(), NONE);
        x.solve();
        x.drop();
        CHECK.due("17: no line is given", x.keep(), NONE);
        write(x, 60, 62, 64, 62);
        x.give();
        CHECK.due("17: another n", x.keep(), NONE);
        CHECK.due("17: nothing is changed", x.told(0), 1);
        x.drop();
        write(x, 50, 50, 50, 50, 50);
        x.give();
        CHECK.due("17: the same n", x.keep(), 1);
    }

    private static void keepAfterOtherSpecies() {
        SpeciesSolver x = withoutRules(60, 62, 64);
        x.species(2, true);
        x.rule(7, true);
        x.rule(3, true);
        x.solve();
        CHECK.due("17: five notes", line(x), "64 65 64 65 64");
        x.species(4, true);
        CHECK.due("17: keep()", x.keep(), 1);
        x.species(1, true);
        x.rule(7, false);
        write(x, 64, 64, 64);
        x.attempt();
        CHECK.due("17: its STRONG notes are not above 64", x.judge(), 0);
        x.species(1, false);
        x.judge();
        CHECK.due("17: and not below 64", faults(x, 9), "3 0 0, 3 1 0");
    }

    private static void judge() {
        SpeciesSolver x = given(60, 62, 64, 62, 60);
        write(x, 67, 65, 67, 71, 72);
        x.attempt();
        CHECK.due("18: no fault", x.judge(), 0);
        CHECK.due("19: none", x.fault(0, 0), NONE);
        write(x, 60, 64, 64, 59, 61);
        x.attempt();
        CHECK.due("18: faults", x.judge(), 6);
        CHECK.due("19: in their order", faults(x, 20), "0 1 -1, 7 2 -1, 10 2 -1, 3 3 0, 0 4 -1, 9 4 -1");
        for (int k : WRONG) {
            CHECK.due("19: fault(" + k + ", 0)", x.fault(k, 0), NONE);
            CHECK.due("19: fault(0, " + k + ")", x.fault(0, k), NONE);
        }
        CHECK.due("19: fault(6, 0)", x.fault(6, 0), NONE);
        CHECK.due("19: fault(0, 3)", x.fault(0, 3), NONE);
        CHECK.due("19: fault(3, 2)", x.fault(3, 2), 0);
        CHECK.due("19: fault(0, 2)", x.fault(0, 2), NONE);
    }

    private static void judgeRefused() {
        SpeciesSolver x = new SpeciesSolver();
        write(x, 67, 65);
        x.attempt();
        CHECK.due("18: no line", x.judge(), NONE);
        CHECK.due("20: no line", x.tried(), NONE);
        write(x, 60, 62);
        x.give();
        CHECK.due("18: N notes", x.judge() >= 0, true);
        x.species(2, true);
        CHECK.due("18: too few", x.judge(), NONE);
        CHECK.due("20: too few", x.tried(), NONE);
        write(x, 67, 65, 64, 65);
        x.attempt();
        CHECK.due("18: too many", x.judge(), NONE);
        CHECK.due("20: too many", x.tried(), NONE);
        x.attempt();
        CHECK.due("18: no TRY", x.judge(), NONE);
    }

    private static void faultsStay() {
        SpeciesSolver x = given(60, 62, 64);
        write(x, 72, 72, 72);
        x.attempt();
        x.rule(10, false);
        x.rule(9, false);
        x.rule(0, false);
        x.judge();
        CHECK.due("19: told", faults(x, 9), "7 1 -1, 7 2 -1");
        x.rule(7, false);
        x.species(4, true);
        CHECK.due("19: NONE", x.judge(), NONE);
        CHECK.due("19: of the latest that was not NONE", faults(x, 9), "7 1 -1, 7 2 -1");
        x.attempt();
        x.drop();
        CHECK.due("19: NONE", x.judge(), NONE);
        x.tried();
        x.solve();
        CHECK.due("19: of the latest that was not NONE", faults(x, 9), "7 1 -1, 7 2 -1");
        write(x, 60, 60);
        x.give();
        write(x, 60, 60);
        x.attempt();
        x.species(1, true);
        CHECK.due("18: none", x.judge(), 0);
        CHECK.due("19: none are left", faults(x, 9), "");
    }

    private static void manyFaults() {
        SpeciesSolver x = new SpeciesSolver();
        for (int line = 0; line < 3; line++) {
            write(x, 70, 70, 70, 70, 70, 70, 70, 70, 70, 70, 70, 70);
            x.give();
        }
        x.species(4, true);
        x.number(3, 0);
        for (int i = 0; i < 45; i++) {
            x.note(60);
        }
        x.attempt();
        // 12 STRONG notes break 0; 45 break 3, thrice; 33 break 4, thrice; 44 break 7 and 10; 8 and 9 once
        CHECK.due("18: all are counted", x.judge(), 12 + 135 + 99 + 44 + 44 + 1 + 1);
        CHECK.due("19: the last that is told has a rule", x.fault(199, 0) != NONE, true);
        CHECK.due("19: at most 200 are told", x.fault(200, 0), NONE);
        CHECK.due("19: at most 200 are told", x.fault(200, 1), NONE);
        // note 0 has 5, each other STRONG note 6 and each weak one 8: 193 come before note 26
        CHECK.due("19: the note of the last but one that is told", x.fault(198, 1), 26);
        CHECK.due("19: its rule", x.fault(198, 0), 4);
        CHECK.due("19: its line", x.fault(198, 2), 2);
        CHECK.due("19: the note of the last that is told", x.fault(199, 1), 26);
        CHECK.due("19: its rule", x.fault(199, 0), 7);
        CHECK.due("19: its line", x.fault(199, 2), NONE);
    }

    private static void tried() {
        SpeciesSolver x = given(60, 62, 64, 62, 60);
        write(x, 67, 65, 67, 71, 72);
        x.attempt();
        CHECK.due("20: as found", x.tried(), 14);
        write(x, 0, 127, 0, 127, 0);
        x.attempt();
        // 508 semitones, 4 skips, moves 0 and 3 go ALIKE; 127 - 62 has CLASS 5, 64 has 4: none PERFECT
        CHECK.due("20: outside THE CHOICE and with FAULTS", x.tried(), 508 + 12 + 4);
        CHECK.due("20: judge() is not needed", x.fault(0, 0), NONE);
    }

    private static void told() {
        SpeciesSolver x = given(60, 62, 64, 62, 60);
        x.species(2, true);
        CHECK.due("21: lines", x.told(0), 1);
        CHECK.due("21: n", x.told(1), 5);
        CHECK.due("21: N", x.told(2), 9);
        write(x, 1, 2, 3, 4);
        CHECK.due("21: draft", x.told(3), 4);
        x.attempt();
        CHECK.due("21: draft", x.told(3), 0);
        CHECK.due("21: TRY", x.told(4), 4);
        x.species(1, true);
        x.solve();
        CHECK.due("21: found", x.told(5), 5);
        x.drop();
        CHECK.due("21: n without", x.told(1), 0);
        CHECK.due("21: N without", x.told(2), 0);
        CHECK.due("21: another", x.told(6), NONE);
        for (int what : WRONG) {
            CHECK.due("21: told(" + what + ")", x.told(what), NONE);
        }
    }
}
