/** The edges of RULES 0 to 10 and of the COSTS: each test quotes the sentence whose edge it is. */
public final class RuleEdgeTest extends Solvers {
    private static final Check CHECK = new Check("RuleEdgeTest");

    public static void main(String[] args) {
        consonant();
        hardWithSomeLine();
        parallelOfAnyOctave();
        parallelOfEachPerfect();
        parallelNeedsTwo();
        hiddenAboveStep();
        crossing();
        hardWithThisLine();
        passingBySteps();
        passingTheSameWay();
        aboveLeap();
        barred();
        aboveTwentyFour();
        aboveBack();
        backByStep();
        backNeedsTwoMoves();
        repeats();
        first();
        last();
        lastMove();
        highest();
        costOfStaying();
        costAboveStep();
        costOfSemitones();
        costOfAlike();
        costOfPerfect();
        costOfHard();
        greatestCosts();
        searchedAsJudged();
        CHECK.end();
    }

    /** "0 a STRONG note's CLASS with a given line is not in CONSONANT": bits 0 and 11, none and all. */
    private static void consonant() {
        for (int cls = 0; cls < 12; cls++) {
            SpeciesSolver x = only(0, 1, 2, 60, 60);
            x.number(3, 1 << cls);
            CHECK.due("0: CLASS " + cls + " in it", judged(x, 60 + cls, 60 - cls), "");
            x.number(3, 4095 - (1 << cls));
            CHECK.due("0: CLASS " + cls + " not in it", judged(x, 60 + cls, 60 - cls), "0 0 -1, 0 1 -1");
            x.number(3, 0);
            CHECK.due("0: nothing is in it", judged(x, 60 + cls, 60 - cls), "0 0 -1, 0 1 -1");
            x.number(3, 4095);
            CHECK.due("0: all are in it", judged(x, 60 + cls, 60 - cls), "");
        }
    }

    /** "a note that has such a CLASS with some given line is HARD": with the last of three, and with all. */
    private static void hardWithSomeLine() {
        SpeciesSolver x = only(0, 1, 2, 60, 60, 60, 60, 61, 60);
        x.number(3, 1);
        CHECK.due("0: with the third alone", judged(x, 60, 60), "0 0 -1");
        CHECK.due("0: with the first two", judged(x, 61, 60), "0 0 -1");
        CHECK.due("0: with all three it is one FAULT of the note", judged(x, 62, 61), "0 0 -1, 0 1 -1");
    }

    /** "1 .. have the same CLASS with a given line": sizes may differ by octaves. */
    private static void parallelOfAnyOctave() {
        SpeciesSolver x = only(1, 1, 2, 60, 61);
        CHECK.due("1: fifth to twelfth", judged(x, 67, 80), "1 1 0");
        CHECK.due("1: unison to octave", judged(x, 60, 73), "1 1 0");
        CHECK.due("1: an octave below to unison", judged(x, 48, 61), "1 1 0");
        CHECK.due("1: fifth below to fifth above", judged(x, 53, 68), "1 1 0");
        CHECK.due("1: fifth to sixth", judged(x, 67, 69), "");
    }

    /** "1 .. that is in PERFECT": each bit. */
    private static void parallelOfEachPerfect() {
        for (int cls = 0; cls < 12; cls++) {
            SpeciesSolver x = only(1, 1, 2, 60, 61);
            x.number(4, 1 << cls);
            CHECK.due("1: CLASS " + cls + " in it", judged(x, 60 + cls, 61 + cls), "1 1 0");
            x.number(4, 4095 - (1 << cls));
            CHECK.due("1: CLASS " + cls + " not in it", judged(x, 60 + cls, 61 + cls), "");
        }
    }

    /** "1 the STRONG note before it": the first has none; both must move. */
    private static void parallelNeedsTwo() {
        SpeciesSolver x = only(1, 2, 2, 60, 60, 60, 59, 60, 61);
        CHECK.due("1: with the line that goes up too", judged(x, 60, 60, 61), "1 2 2");
        CHECK.due("1: with the line that goes down too", judged(x, 60, 60, 59), "1 2 1");
        CHECK.due("1: nothing moves with it", judged(x, 60, 61, 60), "");
        SpeciesSolver y = only(1, 1, 2, 60, 62);
        y.rule(0, true);
        y.number(3, 0);
        y.number(4, 4095);
        CHECK.due("0: rule 1 of the same pair is asked all the same", judged(y, 60, 62), "0 0 -1, 0 1 -1, 1 1 0");
    }

    /** "2 .. the STRONG MOVE of the new one is above STEP": at STEP and one above, for the least STEP and the most. */
    private static void hiddenAboveStep() {
        int[] steps = {1, 2, 12};
        for (int step : steps) {
            SpeciesSolver x = only(2, 1, 2, 60, 62);
            x.number(8, step);
            CHECK.due("2: up by STEP " + step, judged(x, 69 - step, 69), "");
            CHECK.due("2: up by one more", judged(x, 68 - step, 69), "2 1 0");
            CHECK.due("2: not in PERFECT", judged(x, 69 - step, 70), "");
            SpeciesSolver y = only(2, 1, 2, 62, 60);
            y.number(8, step);
            CHECK.due("2: down by STEP " + step, judged(y, 67 + step, 67), "");
            CHECK.due("2: down by one more", judged(y, 68 + step, 67), "2 1 0");
        }
        SpeciesSolver z = only(2, 1, 2, 60, 60);
        CHECK.due("2: the given line stays", judged(z, 55, 67), "");
    }

    /** "3 a note crosses the given line: it is below it, when the new line is ABOVE, else above it." */
    private static void crossing() {
        SpeciesSolver x = only(3, 1, 3, 60, 60, 60);
        CHECK.due("3: ABOVE: one below, at, one above", judged(x, 59, 60, 61), "3 0 0");
        x.species(1, false);
        CHECK.due("3: below: one below, at, one above", judged(x, 59, 60, 61), "3 2 0");
        CHECK.due("3: the ends", judged(x, 0, 127, 0), "3 1 0");
    }

    /** "4 a note that is not STRONG is HARD with this line": each line for itself. */
    private static void hardWithThisLine() {
        SpeciesSolver x = only(4, 2, 2, 60, 60, 61, 61, 62, 62);
        x.number(3, 1);
        CHECK.due("4: HARD with two of three", judged(x, 60, 60, 60), "4 1 1, 4 1 2");
        CHECK.due("4: HARD with the others", judged(x, 61, 61, 61), "4 1 0, 4 1 2");
        CHECK.due("4: HARD with all", judged(x, 64, 64, 64), "4 1 0, 4 1 1, 4 1 2");
        CHECK.due("4: PASSING with all", judged(x, 63, 64, 65), "");
        x.number(3, 4095);
        CHECK.due("4: HARD with none", judged(x, 64, 64, 64), "");
    }

    /** "PASSING: the MOVES to it and from it .. each of 1 .. STEP": 0, 1, STEP and one above. */
    private static void passingBySteps() {
        int[] steps = {1, 2, 12};
        for (int step : steps) {
            for (int to = 0; to <= step + 1; to++) {
                for (int from = 0; from <= step + 1; from++) {
                    SpeciesSolver x = only(4, 2, 2, 60, 60);
                    x.number(3, 0);
                    x.number(8, step);
                    boolean passing = to >= 1 && to <= step && from >= 1 && from <= step;
                    String name = "4: STEP " + step + ", by " + to + " and " + from;
                    CHECK.due(name + " up", judged(x, 60 - to, 60, 60 + from), passing ? "" : "4 1 0");
                    CHECK.due(name + " down", judged(x, 60 + to, 60, 60 - from), passing ? "" : "4 1 0");
                }
            }
        }
    }

    /** "PASSING: the MOVES to it and from it go the same way". */
    private static void passingTheSameWay() {
        SpeciesSolver x = only(4, 2, 2, 60, 60);
        x.number(3, 0);
        CHECK.due("4: up and down", judged(x, 59, 60, 59), "4 1 0");
        CHECK.due("4: down and up", judged(x, 61, 60, 61), "4 1 0");
        CHECK.due("4: on to the next STRONG one", judged(x, 59, 60, 61), "");
    }

    /** "5 a MOVE is above LEAP": at LEAP and one above, for the least LEAP and the most. */
    private static void aboveLeap() {
        int[] leaps = {1, 12, 24};
        for (int leap : leaps) {
            SpeciesSolver x = only(5, 1, 3, 60, 60, 60);
            x.number(7, 0);
            x.number(9, leap);
            CHECK.due("5: of LEAP " + leap, judged(x, 60, 60 + leap, 60), "");
            CHECK.due("5: of one more", judged(x, 60, 61 + leap, 60), "5 1 -1, 5 2 -1");
            CHECK.due("5: the note at which it ends", judged(x, 60, 60, 59 - leap), "5 2 -1");
        }
    }

    /** "5 .. or its size (up to 24) is in BARRED": bits 0 and 24, none and all. */
    private static void barred() {
        for (int size = 0; size <= 24; size++) {
            SpeciesSolver x = only(5, 1, 2, 60, 60);
            x.number(9, 24);
            x.number(7, 1 << size);
            CHECK.due("5: " + size + " in BARRED", judged(x, 60, 60 + size), "5 1 -1");
            CHECK.due("5: " + size + " down", judged(x, 60, 60 - size), "5 1 -1");
            x.number(7, (1 << 25) - 1 - (1 << size));
            CHECK.due("5: " + size + " not in BARRED", judged(x, 60, 60 - size), "");
        }
        SpeciesSolver y = only(5, 1, 2, 60, 60);
        y.number(9, 5);
        y.number(7, 1 << 6);
        CHECK.due("5: above LEAP and in BARRED is one FAULT", judged(y, 60, 66), "5 1 -1");
    }

    /** "5 .. (above 24 it is not)": such a MOVE is above every LEAP, and one FAULT whatever is BARRED. */
    private static void aboveTwentyFour() {
        int[] sizes = {25, 32, 56, 64, 127};
        for (int size : sizes) {
            SpeciesSolver x = only(5, 1, 2, 60, 60);
            x.number(9, 24);
            x.number(7, (1 << 25) - 1);
            CHECK.due("5: " + size + ", all BARRED", judged(x, 0, size), "5 1 -1");
            x.number(7, 0);
            CHECK.due("5: " + size + ", none BARRED", judged(x, 0, size), "5 1 -1");
            x.rule(5, false);
            CHECK.due("5: off", judged(x, 0, size), "");
        }
    }

    /** "6 a MOVE is above BACK": at BACK and one above, for the least BACK and the most. */
    private static void aboveBack() {
        int[] backs = {1, 4, 24};
        for (int back : backs) {
            SpeciesSolver x = only(6, 1, 3, 60, 60, 60);
            x.number(10, back);
            CHECK.due("6: of BACK " + back, judged(x, 60, 60 + back, 60 + back), "");
            CHECK.due("6: of one more", judged(x, 60, 61 + back, 61 + back), "6 2 -1");
            CHECK.due("6: down by BACK", judged(x, 60, 60 - back, 59 - back), "");
            CHECK.due("6: down by one more", judged(x, 60, 59 - back, 58 - back), "6 2 -1");
        }
    }

    /** "6 .. and the next one does not go the other way by 1 .. STEP": 0, 1, STEP and one above. */
    private static void backByStep() {
        int[] steps = {1, 2, 12};
        for (int step : steps) {
            for (int size = 0; size <= step + 1; size++) {
                SpeciesSolver x = only(6, 1, 3, 60, 60, 60);
                x.number(8, step);
                boolean back = size >= 1 && size <= step;
                String name = "6: STEP " + step + ", by " + size;
                CHECK.due(name + " back down", judged(x, 60, 80, 80 - size), back ? "" : "6 2 -1");
                CHECK.due(name + " back up", judged(x, 80, 60, 60 + size), back ? "" : "6 2 -1");
                CHECK.due(name + " on up", judged(x, 60, 80, 80 + size), "6 2 -1");
                CHECK.due(name + " on down", judged(x, 80, 60, 60 - size), "6 2 -1");
            }
        }
    }

    /** "6 .. (The note at which the next one ends.)": the last MOVE has no next one. */
    private static void backNeedsTwoMoves() {
        SpeciesSolver x = only(6, 1, 2, 60, 60);
        CHECK.due("6: one MOVE", judged(x, 0, 127), "");
        SpeciesSolver y = only(6, 1, 3, 60, 60, 60);
        CHECK.due("6: the last of two", judged(y, 60, 60, 127), "");
        CHECK.due("6: the first of two, and the last", judged(y, 60, 0, 127), "6 2 -1");
    }

    /** "7 a note is the same as the REPEATS notes before it (each of these is a fault)." */
    private static void repeats() {
        String[] due = {"7 1 -1, 7 2 -1, 7 3 -1, 7 4 -1", "7 2 -1, 7 3 -1, 7 4 -1", "7 3 -1, 7 4 -1"};
        for (int times = 1; times <= 3; times++) {
            SpeciesSolver x = only(7, 4, 2, 60, 60);
            x.number(11, times);
            CHECK.due("7: all the same, REPEATS " + times, judged(x, 60, 60, 60, 60, 60), due[times - 1]);
            CHECK.due("7: none the same", judged(x, 60, 61, 60, 61, 60), "");
        }
        SpeciesSolver y = only(7, 4, 2, 60, 60);
        y.number(11, 3);
        CHECK.due("7: four from the second on", judged(y, 61, 60, 60, 60, 60), "7 4 -1");
        CHECK.due("7: three, and one more", judged(y, 60, 60, 60, 61, 60), "");
        SpeciesSolver z = only(7, 1, 2, 60, 60);
        z.number(11, 2);
        CHECK.due("7: there are not so many before", judged(z, 60, 60), "");
    }

    /** "8 the first note's CLASS with the first given line is not in FIRST." */
    private static void first() {
        for (int cls = 0; cls < 12; cls++) {
            SpeciesSolver x = only(8, 1, 2, 60, 61, 61, 60);
            x.number(5, 1 << cls);
            CHECK.due("8: CLASS " + cls, judged(x, 60 + cls, 0), "");
            CHECK.due("8: one more", judged(x, 61 + cls, 0), "8 0 -1");
            x.number(5, 0);
            CHECK.due("8: nothing is in it", judged(x, 60 + cls, 0), "8 0 -1");
            x.number(5, 4095);
            CHECK.due("8: all are in it", judged(x, 60 + cls, 0), "");
        }
    }

    /** "9 the last note's CLASS with the first given line is not in LAST". */
    private static void last() {
        for (int cls = 0; cls < 12; cls++) {
            SpeciesSolver x = only(9, 1, 2, 61, 60, 60, 61);
            x.number(6, 1 << cls);
            CHECK.due("9: CLASS " + cls, judged(x, 61 + cls, 60 + cls), "");
            CHECK.due("9: one more", judged(x, 60 + cls, 61 + cls), "9 1 -1");
            x.number(6, 0);
            CHECK.due("9: nothing is in it", judged(x, 61 + cls, 60 + cls), "9 1 -1");
            x.number(6, 4095);
            CHECK.due("9: all are in it", judged(x, 61 + cls, 60 + cls), "");
        }
    }

    /** "9 .. or the MOVE to it is not 1 .. STEP": 0, 1, STEP and one above; both at once are one FAULT. */
    private static void lastMove() {
        int[] steps = {1, 2, 12};
        for (int step : steps) {
            for (int size = 0; size <= step + 1; size++) {
                SpeciesSolver x = only(9, 2, 2, 60, 60);
                x.number(8, step);
                boolean good = size >= 1 && size <= step;
                String name = "9: STEP " + step + ", by " + size;
                CHECK.due(name + " down", judged(x, 0, 60 + size, 60), good ? "" : "9 2 -1");
                CHECK.due(name + " up", judged(x, 127, 60 - size, 60), good ? "" : "9 2 -1");
                x.number(6, 0);
                CHECK.due(name + " to none of LAST", judged(x, 0, 60 + size, 60), "9 2 -1");
            }
        }
    }

    /** "10 the highest PITCH of the line comes more than once: each but its first is a fault." */
    private static void highest() {
        SpeciesSolver x = only(10, 1, 4, 60, 60, 60, 60);
        CHECK.due("10: once, first", judged(x, 127, 0, 0, 0), "");
        CHECK.due("10: once, last", judged(x, 126, 126, 126, 127), "");
        CHECK.due("10: twice, first and last", judged(x, 127, 126, 126, 127), "10 3 -1");
        CHECK.due("10: all", judged(x, 0, 0, 0, 0), "10 1 -1, 10 2 -1, 10 3 -1");
    }

    private static SpeciesSolver costing(int which, int v, int species, int n, int... lines) {
        SpeciesSolver x = only(NONE, species, n, lines);
        noCosts(x);
        x.number(which, v);
        return x;
    }

    /** "12 of each MOVE of 0". */
    private static void costOfStaying() {
        SpeciesSolver x = costing(12, 1000, 2, 2, 60, 62);
        CHECK.due("12: both", tried(x, 60, 60, 60), 2000);
        CHECK.due("12: one", tried(x, 60, 60, 61), 1000);
        CHECK.due("12: none", tried(x, 60, 61, 60), 0);
    }

    /** "13 of each above STEP": at STEP and one above. */
    private static void costAboveStep() {
        int[] steps = {1, 2, 12};
        for (int step : steps) {
            SpeciesSolver x = costing(13, 1000, 1, 2, 60, 62);
            x.number(8, step);
            CHECK.due("13: of STEP " + step, tried(x, 60, 60 + step), 0);
            CHECK.due("13: of one more", tried(x, 60, 61 + step), 1000);
            CHECK.due("13: down by one more", tried(x, 60, 59 - step), 1000);
            CHECK.due("13: of 0", tried(x, 60, 60), 0);
        }
    }

    /** "14 of each semitone of a MOVE". */
    private static void costOfSemitones() {
        SpeciesSolver x = costing(14, 1000, 2, 2, 60, 62);
        CHECK.due("14: none", tried(x, 60, 60, 60), 0);
        CHECK.due("14: one up, two down", tried(x, 60, 61, 59), 3000);
        CHECK.due("14: all, twice", tried(x, 127, 0, 127), 254000);
    }

    /** "15 of each STRONG MOVE that goes ALIKE with a given line's, for each line". */
    private static void costOfAlike() {
        SpeciesSolver x = costing(15, 1000, 2, 2, 60, 61, 60, 61, 60, 61);
        CHECK.due("15: with three", tried(x, 50, 40, 51), 3000);
        CHECK.due("15: with none", tried(x, 50, 60, 49), 0);
        x.drop();
        CHECK.due("15: with two", tried(x, 50, 40, 51), 2000);
    }

    /** "16 of each STRONG note but the first and the last, for each given line with which its CLASS is in PERFECT". */
    private static void costOfPerfect() {
        SpeciesSolver x = costing(16, 1000, 1, 2, 60, 60);
        CHECK.due("16: the first and the last alone", tried(x, 60, 60), 0);
        x.species(4, true);
        CHECK.due("16: weak notes between them", tried(x, 60, 60, 60, 60, 60), 0);
        SpeciesSolver y = costing(16, 1000, 2, 3, 60, 60, 60, 60, 60, 60, 60, 60, 60);
        CHECK.due("16: one between them, with three", tried(y, 60, 60, 60, 60, 60), 3000);
        CHECK.due("16: it is not PERFECT", tried(y, 60, 60, 61, 60, 60), 0);
        y.number(4, 0);
        CHECK.due("16: nothing is", tried(y, 60, 60, 60, 60, 60), 0);
        y.number(4, 1 << 11);
        CHECK.due("16: CLASS 11", tried(y, 60, 60, 71, 60, 60), 3000);
    }

    /** "17 of each HARD note that is not STRONG". */
    private static void costOfHard() {
        SpeciesSolver x = costing(17, 1000, 4, 2, 60, 60, 60, 60, 60, 60);
        x.number(3, 0);
        CHECK.due("17: three weak ones, once each", tried(x, 60, 60, 60, 60, 60), 3000);
        x.species(1, true);
        CHECK.due("17: none is weak", tried(x, 60, 60), 0);
        x.species(2, true);
        x.number(3, 4095);
        CHECK.due("17: none is HARD", tried(x, 60, 61, 60), 0);
    }

    /** "COSTS (0 .. 1000)", "The COST of a line is their sum": the dearest line there is, and the cheapest. */
    private static void greatestCosts() {
        SpeciesSolver x = new SpeciesSolver();
        for (int line = 0; line < 3; line++) {
            for (int i = 0; i < 12; i++) {
                x.note(i % 2 == 0 ? 0 : 127);
            }
            x.give();
        }
        x.species(1, true);
        x.number(3, 0);
        x.number(4, 4095);
        for (int which = 12; which < 18; which++) {
            x.number(which, 1000);
        }
        for (int i = 0; i < 12; i++) {
            x.note(i % 2 == 0 ? 0 : 127);
        }
        x.attempt();
        CHECK.due("11 MOVES of 127 above STEP, ALIKE with three; 10 notes PERFECT with three", x.tried(),
            11 * 127000 + 11 * 1000 + 33 * 1000 + 30 * 1000);
        x.species(4, true);
        for (int i = 0; i < 45; i++) {
            x.note(i % 2 == 0 ? 0 : 127);
        }
        x.attempt();
        CHECK.due("44 MOVES of 127 above STEP; 10 notes PERFECT with three; 33 HARD ones", x.tried(),
            44 * 127000 + 44 * 1000 + 30 * 1000 + 33 * 1000);
        noCosts(x);
        CHECK.due("all COSTS are 0", x.tried(), 0);
    }

    /** "A LINE KEEPS the rules when it has no FAULT": of all lines of a small CHOICE, those judged without one. */
    private static void searchedAsJudged() {
        for (int rule = 0; rule < RULES; rule++) {
            searchedAsJudged(rule, 1, 3, 60, 62, 61, 61, 60, 63);
            searchedAsJudged(rule, 2, 2, 60, 62, 61, 60);
        }
    }

    private static void searchedAsJudged(int rule, int species, int n, int... lines) {
        int consonant = 1 | 1 << 3 | 1 << 4 | 1 << 5;
        SpeciesSolver x = only(rule, species, n, lines);
        x.number(0, 4095);
        range(x, 60, 66);
        x.number(3, consonant);
        long kept = 0;
        int least = Integer.MAX_VALUE;
        for (int i = 0; i < 7 * 7 * 7; i++) {
            SpeciesSolver y = only(rule, species, n, lines);
            y.number(3, consonant);
            attempt(y, 60 + i / 49, 60 + i / 7 % 7, 60 + i % 7);
            if (y.judge() == 0) {
                kept++;
                least = Math.min(least, y.tried());
            }
        }
        CHECK.due("count() with rule " + rule + ", SPECIES " + species, x.count(), kept);
        x.solve();
        CHECK.due("cost() with rule " + rule + ", SPECIES " + species, x.cost(), kept == 0 ? NONE : least);
    }
}
