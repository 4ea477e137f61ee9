/** Each rule and each cost by itself: of a line that is tried (promises 18 to 20) and of those found (11 to 16). */
public final class RuleTest extends Solvers {
    private static final Check CHECK = new Check("RuleTest");

    public static void main(String[] args) {
        strongDissonance();
        dissonanceAndParallel();
        parallel();
        parallelOfSpecies();
        hidden();
        crossing();
        passing();
        leaping();
        turning();
        repeating();
        opening();
        closing();
        summit();
        moveCosts();
        strongCosts();
        hardCosts();
        CHECK.end();
    }

    /** How many lines there are when each note of these two may stand anywhere. */
    private static long counted(SpeciesSolver x, int one, int other) {
        x.number(0, 1 << one % 12 | 1 << other % 12);
        x.number(1, Math.min(one, other));
        x.number(2, Math.max(one, other));
        return x.count();
    }

    private static void strongDissonance() {
        SpeciesSolver x = only(0, 2, 3, 60, 60, 60);
        CHECK.due("0: a weak note may be HARD", judged(x, 64, 61, 67, 66, 72), "");
        CHECK.due("0: a STRONG one may not", judged(x, 62, 64, 65, 64, 59), "0 0 -1, 0 2 -1, 0 4 -1");
        CHECK.due("0: below too", judged(x, 57, 64, 53, 64, 48), "");
        CHECK.due("0: lines with 64 and 65", counted(x, 64, 65), 4);
        SpeciesSolver y = only(0, 1, 2, 60, 60, 61, 64);
        CHECK.due("0: HARD with some line; one fault of the note", judged(y, 62, 64), "0 0 -1");
        CHECK.due("0: HARD with the second alone", judged(y, 60, 69), "0 0 -1, 0 1 -1");
    }

    private static void dissonanceAndParallel() {
        SpeciesSolver x = only(0, 1, 2, 60, 62);
        x.rule(1, true);
        x.number(4, 1 << 2);
        CHECK.due("0: rule 1 is asked all the same", judged(x, 62, 64), "0 0 -1, 0 1 -1, 1 1 0");
    }

    private static void parallel() {
        SpeciesSolver x = only(1, 1, 4, 60, 62, 60, 60);
        CHECK.due("1: fifths up and down", judged(x, 67, 69, 67, 67), "1 1 0, 1 2 0");
        CHECK.due("1: octave to unison", judged(x, 72, 74, 60, 60), "1 1 0, 1 2 0");
        CHECK.due("1: against each other", judged(x, 67, 55, 67, 67), "");
        CHECK.due("1: thirds", judged(x, 64, 66, 64, 64), "");
        CHECK.due("1: fifth to octave", judged(x, 67, 74, 67, 67), "");
        SpeciesSolver y = only(1, 1, 2, 60, 62, 48, 50, 60, 59);
        CHECK.due("1: with each line", judged(y, 60, 62), "1 1 0, 1 1 1");
        CHECK.due("1: lines with 60 and 62", counted(y, 60, 62), 3);
    }

    private static void parallelOfSpecies() {
        SpeciesSolver x = only(1, 2, 3, 60, 62, 64);
        CHECK.due("1: from STRONG to STRONG", judged(x, 67, 60, 69, 75, 71), "1 2 0, 1 4 0");
        SpeciesSolver y = only(1, 4, 2, 60, 62);
        CHECK.due("1: over three weak notes", judged(y, 67, 60, 60, 72, 69), "1 4 0");
        CHECK.due("1: the first and the last are the STRONG ones", counted(y, 67, 69), 32 - 8);
    }

    private static void hidden() {
        SpeciesSolver x = only(2, 1, 3, 60, 62, 60);
        CHECK.due("2: leap up to a fifth", judged(x, 64, 69, 70), "2 1 0");
        CHECK.due("2: a step up", judged(x, 67, 69, 70), "");
        CHECK.due("2: leap down to an octave", judged(x, 70, 76, 60), "2 2 0");
        CHECK.due("2: leap the other way", judged(x, 72, 69, 72), "");
        CHECK.due("2: it stays", judged(x, 69, 69, 67), "");
        x.number(8, 5);
        CHECK.due("2: STEP of 5", judged(x, 64, 69, 70), "");
        SpeciesSolver y = only(2, 2, 2, 60, 62, 48, 49);
        CHECK.due("2: the STRONG MOVE, not the MOVE", judged(y, 64, 68, 69), "2 2 0");
        CHECK.due("2: with the other line", judged(y, 52, 60, 56), "2 2 1");
        CHECK.due("2: lines with 64 and 69", counted(y, 64, 69), 6);
    }

    private static void crossing() {
        SpeciesSolver x = only(3, 2, 2, 60, 64, 62, 62);
        CHECK.due("3: above, weak notes too", judged(x, 60, 61, 62), "3 0 1, 3 1 1, 3 2 0");
        x.species(2, false);
        CHECK.due("3: below", judged(x, 61, 60, 63), "3 0 0, 3 2 1");
        CHECK.due("3: lines with 60 and 62", counted(x, 60, 62), 2);
    }

    private static void passing() {
        SpeciesSolver x = only(4, 4, 2, 60, 60, 61, 60);
        CHECK.due("4: all HARD weak notes pass", judged(x, 60, 62, 64, 65, 67), "");
        x.drop();
        CHECK.due("4: back again", judged(x, 60, 62, 60, 61, 61), "4 1 0, 4 3 0");
        CHECK.due("4: by more than STEP", judged(x, 60, 62, 65, 67, 67), "4 1 0, 4 2 0");
        CHECK.due("4: to it by more than STEP", judged(x, 59, 62, 64, 64, 60), "4 1 0");
        CHECK.due("4: staying before it", judged(x, 62, 62, 63, 64, 64), "4 1 0");
        CHECK.due("4: downwards", judged(x, 67, 66, 65, 64, 62), "");
        CHECK.due("4: STRONG notes are not asked", judged(x, 61, 60, 60, 60, 61), "");
        SpeciesSolver y = only(4, 2, 2, 60, 60, 63, 63, 62, 62);
        CHECK.due("4: with each line", judged(y, 65, 61, 60), "4 1 0, 4 1 1, 4 1 2");
        CHECK.due("4: HARD with this line alone", judged(y, 65, 60, 60), "4 1 2");
        SpeciesSolver z = only(4, 2, 2, 60, 60);
        // 62 in the middle is HARD and cannot pass: 4 lines have it there
        CHECK.due("4: lines with 60 and 62", counted(z, 60, 62), 4);
    }

    private static void leaping() {
        SpeciesSolver x = only(5, 1, 3, 60, 60, 60);
        CHECK.due("5: an octave", judged(x, 60, 72, 60), "");
        CHECK.due("5: above LEAP", judged(x, 60, 73, 60), "5 1 -1, 5 2 -1");
        CHECK.due("5: BARRED", judged(x, 60, 66, 56), "5 1 -1, 5 2 -1");
        x.number(9, 24);
        x.number(7, 1 | 1 << 24);
        CHECK.due("5: 24 and 0 in BARRED", judged(x, 60, 84, 84), "5 1 -1, 5 2 -1");
        CHECK.due("5: above 24", judged(x, 60, 85, 84), "5 1 -1");
        x.number(7, 1 << 1);
        CHECK.due("5: above LEAP, not in BARRED", judged(x, 60, 93, 83), "5 1 -1");
        CHECK.due("5: lines with 60 and 61", counted(x, 60, 61), 2);
    }

    private static void turning() {
        SpeciesSolver x = only(6, 1, 4, 60, 60, 60, 60);
        CHECK.due("6: at BACK", judged(x, 60, 64, 72, 71), "");
        CHECK.due("6: above BACK and on", judged(x, 60, 65, 66, 66), "6 2 -1");
        CHECK.due("6: and it stays", judged(x, 60, 65, 65, 65), "6 2 -1");
        CHECK.due("6: and back by a step", judged(x, 60, 65, 63, 63), "");
        CHECK.due("6: and back by more", judged(x, 60, 65, 62, 62), "6 2 -1");
        CHECK.due("6: downwards", judged(x, 65, 60, 59, 61), "6 2 -1");
        CHECK.due("6: downwards and back", judged(x, 65, 60, 61, 61), "");
        CHECK.due("6: the last MOVE has none behind it", judged(x, 60, 60, 60, 72), "");
        x.number(10, 5);
        CHECK.due("6: BACK of 5", judged(x, 60, 65, 66, 66), "");
        x.number(10, 4);
        // a MOVE of 5 may only be the last
        CHECK.due("6: lines with 60 and 65", counted(x, 60, 65), 4);
        CHECK.due("6: a beginning", x.reach(), 4);
    }

    private static void repeating() {
        SpeciesSolver x = only(7, 1, 5, 60, 60, 60, 60, 60);
        CHECK.due("7: one", judged(x, 60, 60, 62, 62, 62), "7 1 -1, 7 3 -1, 7 4 -1");
        CHECK.due("7: lines", counted(x, 60, 62), 2);
        x.number(11, 2);
        CHECK.due("7: two", judged(x, 60, 60, 62, 62, 62), "7 4 -1");
        CHECK.due("7: each of these", judged(x, 60, 60, 60, 60, 60), "7 2 -1, 7 3 -1, 7 4 -1");
        CHECK.due("7: lines", counted(x, 60, 62), 16);
        x.number(11, 3);
        CHECK.due("7: three", judged(x, 60, 60, 60, 60, 60), "7 3 -1, 7 4 -1");
        CHECK.due("7: three of the same", judged(x, 60, 60, 60, 62, 60), "");
        // of 32 lines two have five alike and four have four
        CHECK.due("7: lines", counted(x, 60, 62), 26);
    }

    private static void opening() {
        SpeciesSolver x = only(8, 1, 2, 60, 60, 61, 61);
        CHECK.due("8: a fifth", judged(x, 67, 61), "");
        CHECK.due("8: a third", judged(x, 64, 61), "8 0 -1");
        CHECK.due("8: with the first line alone", judged(x, 68, 60), "8 0 -1");
        CHECK.due("8: lines", counted(x, 64, 67), 2);
        x.number(5, 1 << 4);
        CHECK.due("8: FIRST", judged(x, 64, 61), "");
    }

    private static void closing() {
        SpeciesSolver x = only(9, 2, 2, 60, 60, 61, 61);
        CHECK.due("9: a step to an octave", judged(x, 67, 71, 72), "");
        CHECK.due("9: a leap to an octave", judged(x, 67, 69, 72), "9 2 -1");
        CHECK.due("9: it stays", judged(x, 67, 60, 60), "9 2 -1");
        CHECK.due("9: a fifth", judged(x, 67, 66, 67), "9 2 -1");
        CHECK.due("9: both are one fault", judged(x, 67, 67, 67), "9 2 -1");
        CHECK.due("9: lines", counted(x, 60, 62), 2);
        x.number(6, 1 << 7);
        CHECK.due("9: LAST", judged(x, 67, 66, 67), "");
    }

    private static void summit() {
        SpeciesSolver x = only(10, 1, 5, 60, 60, 60, 60, 60);
        CHECK.due("10: once", judged(x, 60, 62, 60, 62, 64), "");
        CHECK.due("10: thrice", judged(x, 64, 64, 60, 62, 64), "10 1 -1, 10 4 -1");
        CHECK.due("10: all", judged(x, 60, 60, 60, 60, 60), "10 1 -1, 10 2 -1, 10 3 -1, 10 4 -1");
        CHECK.due("10: lines with 60 and 62", counted(x, 60, 62), 5);
        x.number(2, 64);
        x.number(0, 1 | 1 << 2 | 1 << 4);
        CHECK.due("10: lines with 60, 62 and 64", x.count(), 5 + 5 * 16);
    }

    private static void moveCosts() {
        SpeciesSolver x = only(NONE, 1, 4, 60, 60, 60, 60);
        for (int which = 12; which < 18; which++) {
            x.number(which, 0);
        }
        x.number(12, 7);
        CHECK.due("12: two MOVES of 0", tried(x, 61, 61, 61, 65), 14);
        x.number(12, 0);
        x.number(13, 1000);
        CHECK.due("13: two above STEP", tried(x, 61, 64, 66, 61), 2000);
        x.number(13, 0);
        x.number(14, 10);
        CHECK.due("14: semitones", tried(x, 61, 64, 66, 61), 100);
        x.number(12, 1);
        x.number(13, 2);
        CHECK.due("12 to 14: their sum", tried(x, 61, 64, 64, 62), 50 + 1 + 2);
    }

    private static void strongCosts() {
        SpeciesSolver x = only(NONE, 2, 3, 60, 62, 60, 55, 57, 59, 50, 50, 50);
        for (int which = 12; which < 18; which++) {
            x.number(which, 0);
        }
        x.number(15, 3);
        CHECK.due("15: up with two, up with one", tried(x, 61, 50, 64, 50, 70), 9);
        CHECK.due("15: it stays", tried(x, 61, 50, 61, 50, 61), 0);
        CHECK.due("15: down with one", tried(x, 61, 50, 60, 50, 40), 3);
        x.number(15, 0);
        x.number(16, 5);
        CHECK.due("16: neither first nor last", tried(x, 60, 60, 61, 60, 60), 0);
        CHECK.due("16: fifths with two and an octave with one", tried(x, 61, 62, 69, 62, 61), 15);
        CHECK.due("16: an octave with one", tried(x, 61, 62, 74, 62, 61), 10);
        CHECK.due("16: weak notes are not asked", tried(x, 61, 69, 61, 69, 61), 0);
    }

    private static void hardCosts() {
        SpeciesSolver x = only(NONE, 4, 2, 60, 60, 61, 61);
        for (int which = 12; which < 17; which++) {
            x.number(which, 0);
        }
        x.number(17, 4);
        CHECK.due("17: once for a note, with however many lines", tried(x, 62, 62, 66, 64, 66), 8);
        CHECK.due("17: STRONG notes are not asked", tried(x, 62, 69, 64, 64, 66), 0);
    }
}
