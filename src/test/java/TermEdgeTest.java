/** The edges of the document's terms: each test quotes the sentence whose edge it is. */
public final class TermEdgeTest extends Solvers {
    private static final Check CHECK = new Check("TermEdgeTest");

    public static void main(String[] args) {
        pitches();
        classes();
        atMostThreeLines();
        twoToTwelveNotes();
        sameLength();
        lengthOfTheNewOne();
        againstWhichNote();
        whichAreStrong();
        choiceHoldsItsEnds();
        choiceOfPitchClasses();
        choiceOfEight();
        choiceIsEmpty();
        linesOfTheChoice();
        alike();
        strongMoves();
        ordersOfEqualCost();
        CHECK.end();
    }

    /** "PITCHES are 0 .. 127, by semitones." */
    private static void pitches() {
        SpeciesSolver x = new SpeciesSolver();
        CHECK.due("the first below", x.note(-1), NONE);
        CHECK.due("the lowest", x.note(0), 1);
        CHECK.due("the highest", x.note(127), 2);
        CHECK.due("the first above", x.note(128), NONE);
        for (int pitch : FAR) {
            CHECK.due("far from them", x.note(pitch), NONE);
        }
        int[] ends = {0, 127};
        for (int pitch : ends) {
            SpeciesSolver y = only(NONE, 1, 2, pitch, pitch);
            range(y, pitch, pitch);
            y.number(0, 4095);
            CHECK.due("a line of the pitch at an end", y.solve(), 1);
            CHECK.due("it is found", line(y), pitch + " " + pitch);
        }
    }

    /** "The CLASS of an interval is its size (without sign) modulo 12." */
    private static void classes() {
        int[] against = {0, 60, 127};
        for (int other : against) {
            for (int pitch = 0; pitch <= 127; pitch++) {
                SpeciesSolver x = only(8, 1, 2, other, other);
                int due = (pitch < other ? other - pitch : pitch - other) % 12;
                x.number(5, 1 << due);
                CHECK.due("CLASS of " + pitch + " with " + other, judged(x, pitch, 0), "");
                x.number(5, 4095 - (1 << due));
                CHECK.due("no other CLASS of " + pitch + " with " + other, judged(x, pitch, 0), "8 0 -1");
            }
        }
    }

    /** "GIVEN LINES are at most 3 .." */
    private static void atMostThreeLines() {
        SpeciesSolver x = new SpeciesSolver();
        for (int line = 0; line < 3; line++) {
            write(x, 60, 62);
            CHECK.due("line " + line, x.give(), line);
            CHECK.due("so many", x.told(0), line + 1);
        }
        write(x, 60, 62);
        CHECK.due("a fourth", x.give(), NONE);
        CHECK.due("still 3", x.told(0), 3);
        x.drop();
        CHECK.due("there is place again", x.give(), 2);
    }

    /** ".. of n notes each (2 .. 12 .." */
    private static void twoToTwelveNotes() {
        for (int n = 0; n <= 45; n++) {
            SpeciesSolver x = new SpeciesSolver();
            writeLike(x, 60, n);
            boolean taken = n >= 2 && n <= 12;
            CHECK.due("a line of " + n, x.give(), taken ? 0 : NONE);
            CHECK.due("n of " + n, x.told(1), taken ? n : 0);
            CHECK.due("draft of " + n, x.told(3), taken ? 0 : n);
        }
    }

    /** ".. the same n)." */
    private static void sameLength() {
        int[] lengths = {2, 3, 11, 12};
        for (int n : lengths) {
            for (int other = 2; other <= 12; other++) {
                SpeciesSolver x = new SpeciesSolver();
                writeLike(x, 60, n);
                x.give();
                writeLike(x, 64, other);
                CHECK.due("a line of " + other + " with one of " + n, x.give(), other == n ? 1 : NONE);
                CHECK.due("n stays " + n, x.told(1), n);
            }
        }
    }

    /** "N = K (n - 1) + 1." */
    private static void lengthOfTheNewOne() {
        int[] species = {1, 2, 4};
        for (int k : species) {
            for (int n = 2; n <= 12; n++) {
                SpeciesSolver x = only(NONE, k, n, new int[n]);
                int total = k * (n - 1) + 1;
                CHECK.due("N of " + n + " and " + k, x.told(2), total);
                x.number(0, 1);
                range(x, 60, 60);
                x.solve();
                CHECK.due("the line found has N", x.told(5), total);
                CHECK.due("and no more", x.found(total), NONE);
                CHECK.due("its last note", x.found(total - 1), 60);
                CHECK.due("reach() is N", x.reach(), total);
                judgeAround(x, total);
            }
        }
    }

    private static void judgeAround(SpeciesSolver x, int total) {
        for (int size = total - 1; size <= total + 1 && size <= 45; size++) {
            writeLike(x, 60, size);
            x.attempt();
            CHECK.due("judge() of " + size + " notes where N is " + total, x.judge(), size == total ? 0 : NONE);
            CHECK.due("tried() of " + size, x.tried() != NONE, size == total);
        }
    }

    /** "Note j (from 0) stands against given note j / K .." */
    private static void againstWhichNote() {
        SpeciesSolver x = only(3, 4, 3, 60, 70, 50);
        CHECK.due("four to a note", judged(x, 65, 65, 65, 65, 65, 65, 65, 65, 65), "3 4 0, 3 5 0, 3 6 0, 3 7 0");
        CHECK.due("the last alone", judged(x, 70, 70, 70, 70, 70, 70, 70, 70, 49), "3 8 0");
        x.species(2, true);
        CHECK.due("two to a note", judged(x, 65, 65, 65, 65, 65), "3 2 0, 3 3 0");
        x.species(1, true);
        CHECK.due("one to a note", judged(x, 65, 65, 65), "3 1 0");
    }

    /** ".. it is STRONG when K divides j." */
    private static void whichAreStrong() {
        SpeciesSolver x = only(0, 4, 3, 60, 60, 60);
        x.number(3, 0);
        CHECK.due("of four", judged(x, 60, 60, 60, 60, 60, 60, 60, 60, 60), "0 0 -1, 0 4 -1, 0 8 -1");
        x.species(2, true);
        CHECK.due("of two", judged(x, 60, 60, 60, 60, 60), "0 0 -1, 0 2 -1, 0 4 -1");
        x.species(1, true);
        CHECK.due("of one", judged(x, 60, 60, 60), "0 0 -1, 0 1 -1, 0 2 -1");
        onlyRule(x, 4);
        CHECK.due("of one none is weak", judged(x, 60, 60, 60), "");
        x.species(2, true);
        CHECK.due("of two", judged(x, 60, 60, 60, 60, 60), "4 1 0, 4 3 0");
        x.species(4, true);
        CHECK.due("of four", judged(x, 60, 60, 60, 60, 60, 60, 60, 60, 60),
            "4 1 0, 4 2 0, 4 3 0, 4 5 0, 4 6 0, 4 7 0");
    }

    /** "THE CHOICE, are those from LOW to HIGH .." */
    private static void choiceHoldsItsEnds() {
        SpeciesSolver x = only(NONE, 1, 2, 60, 60);
        noCosts(x);
        x.number(0, 4095);
        range(x, 60, 61);
        CHECK.due("LOW and HIGH", x.choice(), 2);
        x.solve();
        CHECK.due("LOW is in it", line(x), "60 60");
        x.rule(3, true);
        x.drop();
        write(x, 61, 61);
        x.give();
        x.solve();
        CHECK.due("HIGH is in it", line(x), "61 61");
        x.drop();
        write(x, 62, 62);
        x.give();
        CHECK.due("what is above HIGH is not", x.solve(), 0);
        range(x, 0, 0);
        CHECK.due("0 alone", x.choice(), 1);
        range(x, 127, 127);
        CHECK.due("127 alone", x.choice(), 1);
    }

    /** ".. whose PITCH modulo 12 is in MODE .." */
    private static void choiceOfPitchClasses() {
        for (int pitch = 0; pitch <= 127; pitch++) {
            SpeciesSolver x = new SpeciesSolver();
            range(x, pitch, pitch);
            x.number(0, 1 << pitch % 12);
            CHECK.due("in MODE: " + pitch, x.choice(), 1);
            x.number(0, 4095 - (1 << pitch % 12));
            CHECK.due("not in MODE: " + pitch, x.choice(), 0);
        }
    }

    /** ".. if they are 8 at most." */
    private static void choiceOfEight() {
        SpeciesSolver x = only(NONE, 1, 2, 60, 60);
        x.number(0, 4095);
        for (int size = 1; size <= 128; size++) {
            range(x, 0, size - 1);
            CHECK.due("choice() of " + size, x.choice(), size <= 8 ? size : NONE);
        }
        range(x, 120, 127);
        CHECK.due("the highest 8", x.choice(), 8);
        CHECK.due("count() of 8", x.count(), 64);
        range(x, 119, 127);
        CHECK.due("the highest 9", x.choice(), NONE);
        CHECK.due("count() of 9", x.count(), NONE);
        x.number(0, 1);
        range(x, 36, 120);
        CHECK.due("8 octaves apart", x.choice(), 8);
        range(x, 24, 120);
        CHECK.due("9 octaves apart", x.choice(), NONE);
    }

    /** None from LOW to HIGH, or none in MODE: there are 0, which is not NONE. */
    private static void choiceIsEmpty() {
        SpeciesSolver x = only(NONE, 1, 2, 60, 60);
        range(x, 73, 72);
        CHECK.due("LOW is one above HIGH", x.choice(), 0);
        range(x, 127, 0);
        CHECK.due("LOW is far above HIGH", x.choice(), 0);
        CHECK.due("solve()", x.solve(), 0);
        range(x, 0, 127);
        x.number(0, 0);
        CHECK.due("an empty MODE", x.choice(), 0);
        CHECK.due("solve()", x.solve(), 0);
        CHECK.due("count()", x.count(), 0);
        CHECK.due("ties()", x.ties(), 0);
        CHECK.due("reach()", x.reach(), 0);
    }

    /** "A LINE KEEPS the rules when it has no FAULT and each of its notes is in THE CHOICE." */
    private static void linesOfTheChoice() {
        for (int size = 0; size <= 8; size++) {
            SpeciesSolver x = only(NONE, 2, 2, 60, 60);
            x.number(0, 4095);
            range(x, 60, 59 + size);
            CHECK.due("all lines of three notes over " + size, x.count(), size * size * size);
            x.rule(3, true);
            CHECK.due("none crosses", x.count(), size * size * size);
            x.species(2, false);
            CHECK.due("all but one cross", x.count(), size == 0 ? 0 : 1);
        }
    }

    /** "Two move ALIKE when both go up, or both go down." */
    private static void alike() {
        int[] moves = {-127, -1, 0, 1, 127};
        for (int mine : moves) {
            for (int theirs : moves) {
                int start = theirs < 0 ? 127 : 0;
                SpeciesSolver x = only(NONE, 1, 2, start, start + theirs);
                noCosts(x);
                x.number(15, 1);
                int from = mine < 0 ? 127 : 0;
                boolean alike = mine > 0 && theirs > 0 || mine < 0 && theirs < 0;
                CHECK.due("moves of " + mine + " and " + theirs, tried(x, from, from + mine), alike ? 1 : 0);
            }
        }
    }

    /** "A STRONG MOVE is from one STRONG note to the next STRONG one; a given line moves .. at the same time." */
    private static void strongMoves() {
        SpeciesSolver x = only(NONE, 4, 3, 60, 61, 60);
        noCosts(x);
        x.number(15, 1);
        CHECK.due("up and down with it", tried(x, 50, 60, 60, 60, 51, 40, 40, 40, 50), 2);
        CHECK.due("the weak notes do not matter", tried(x, 50, 40, 41, 42, 50, 60, 50, 51, 50), 0);
        CHECK.due("down and up against it", tried(x, 50, 60, 70, 80, 49, 40, 30, 20, 50), 0);
        x.species(2, true);
        CHECK.due("of two", tried(x, 50, 40, 51, 60, 50), 2);
        x.species(1, true);
        CHECK.due("of one each MOVE is STRONG", tried(x, 50, 51, 50), 2);
    }

    /** "Of several of least COST the one found is that whose first note is lowest, .. whose second is, and so on." */
    private static void ordersOfEqualCost() {
        SpeciesSolver x = only(7, 1, 3, 60, 60, 60);
        noCosts(x);
        range(x, 60, 64);
        x.solve();
        CHECK.due("first, second, third", line(x), "60 62 60");
        CHECK.due("of so many", x.ties(), 12);
        // the lines that begin lowest would cost more, as their first MOVE is a skip
        onlyRule(x, 8);
        x.number(5, 1 << 4 | 1);
        x.number(13, 1);
        x.number(0, 1 | 1 << 4 | 1 << 5);
        range(x, 60, 65);
        x.number(12, 1);
        x.solve();
        CHECK.due("the COST comes before the order", line(x), "64 65 64");
        CHECK.due("its COST", x.cost(), 0);
        x.number(12, 0);
        x.solve();
        CHECK.due("the first note", line(x), "60 60 60");
        lastNoteDecides();
        highestNoteDoesNotDecide();
    }

    /** MOVES of 1 and 4 alone: 62 63 62 has the lowest of all highest notes, but begins higher. */
    private static void highestNoteDoesNotDecide() {
        SpeciesSolver x = only(10, 1, 3, 60, 60, 60);
        noCosts(x);
        x.number(0, 1 | 1 << 2 | 1 << 3 | 1 << 4);
        range(x, 60, 64);
        x.rule(5, true);
        x.number(7, 1 | 1 << 2 | 1 << 3);
        x.solve();
        CHECK.due("the first note, whatever is the highest", line(x), "60 64 60");
    }

    private static void lastNoteDecides() {
        SpeciesSolver x = only(10, 4, 12, new int[12]);
        noCosts(x);
        range(x, 60, 62);
        x.number(0, 1 | 1 << 2);
        CHECK.due("one of 45 notes is the highest", x.count(), 45);
        x.solve();
        for (int j = 0; j < 45; j++) {
            CHECK.due("note " + j, x.found(j), j == 44 ? 62 : 60);
        }
    }
}
