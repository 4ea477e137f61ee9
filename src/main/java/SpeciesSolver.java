/**
 * Finds, counts and judges lines of music that go against given ones by rules.
 * The document ../shared/DOC.md tells what each call promises; words like CLASS, STRONG and HARD are its terms.
 */
public final class SpeciesSolver {
    public static final int NONE = -1;

    private static final int MAX_PITCH = 127;
    private static final int MAX_GIVEN = 3;
    private static final int MIN_LENGTH = 2;
    private static final int MAX_LENGTH = 12;
    private static final int MAX_NOTES = 45;
    private static final int MAX_CHOICE = 8;
    private static final int MAX_TOLD = 200;
    private static final int OCTAVE = 12;
    private static final int MAX_BARRED = 24;

    private static final int RULES = 11;
    private static final int DISSONANT = 0;
    private static final int PARALLEL = 1;
    private static final int HIDDEN = 2;
    private static final int CROSSING = 3;
    private static final int NOT_PASSING = 4;
    private static final int LEAPING = 5;
    private static final int NOT_TURNED = 6;
    private static final int REPEATED = 7;
    private static final int OPENING = 8;
    private static final int CLOSING = 9;
    private static final int SUMMIT = 10;

    private static final int NUMBERS = 18;
    private static final int MODE = 0;
    private static final int LOW = 1;
    private static final int HIGH = 2;
    private static final int CONSONANT = 3;
    private static final int PERFECT = 4;
    private static final int FIRST = 5;
    private static final int LAST = 6;
    private static final int BARRED = 7;
    private static final int STEP = 8;
    private static final int LEAP = 9;
    private static final int BACK = 10;
    private static final int REPEATS = 11;
    private static final int COST_STAY = 12;
    private static final int COST_SKIP = 13;
    private static final int COST_SEMITONE = 14;
    private static final int COST_ALIKE = 15;
    private static final int COST_PERFECT = 16;
    private static final int COST_HARD = 17;

    private static final int[] AT_FIRST = {2741, 60, 72, 921, 129, 129, 1, 3136, 2, 12, 4, 1, 5, 3, 1, 2, 1, 1};
    private static final int[] LEAST = {0, 0, 0, 0, 0, 0, 0, 0, 1, 1, 1, 1, 0, 0, 0, 0, 0, 0};
    private static final int[] MOST = {4095, 127, 127, 4095, 4095, 4095, 4095, 33554431, 12, 24, 24, 3,
        1000, 1000, 1000, 1000, 1000, 1000};

    private final Setup setup;
    private final Rules rules;
    private final FaultFinder finder;
    private final Prices prices;
    private final Search search;
    private final Line draft = new Line();
    private final Line attempted = new Line();
    private final Line best = new Line();
    private int bestCost = NONE;
    private int bestPerNote = 1;
    private int bestLength = 0;
    /** Whether the search still stands for the present setup: solve, count and ties share one search. */
    private boolean searched = false;

    public SpeciesSolver() {
        setup = new Setup();
        rules = new Rules(setup);
        finder = new FaultFinder(setup, rules);
        prices = new Prices(setup, rules);
        search = new Search(setup, prices);
    }

    public int note(int pitch) {
        if (pitch < 0 || pitch > MAX_PITCH || draft.size >= MAX_NOTES) {
            return NONE;
        }
        draft.append(pitch);
        return draft.size;
    }

    public int give() {
        if (!setup.hasPlaceFor(draft.size)) {
            return NONE;
        }
        setup.addLine(draft, 1, draft.size);
        draft.size = 0;
        searched = false;
        return setup.lines - 1;
    }

    public int attempt() {
        attempted.copyOf(draft);
        draft.size = 0;
        return attempted.size;
    }

    public boolean drop() {
        if (setup.lines == 0) {
            return false;
        }
        setup.removeLine();
        searched = false;
        return true;
    }

    public boolean species(int k, boolean above) {
        if (k != 1 && k != 2 && k != 4) {
            return false;
        }
        setup.perNote = k;
        setup.above = above;
        searched = false;
        return true;
    }

    public boolean rule(int rule, boolean on) {
        if (rule < 0 || rule >= RULES) {
            return false;
        }
        setup.on[rule] = on;
        searched = false;
        return true;
    }

    public boolean number(int which, int v) {
        if (which < 0 || which >= NUMBERS || v < LEAST[which] || v > MOST[which]) {
            return false;
        }
        setup.numbers[which] = v;
        searched = false;
        return true;
    }

    public int setting(int which) {
        return which < 0 || which >= NUMBERS ? NONE : setup.numbers[which];
    }

    public int choice() {
        return setup.choiceSize();
    }

    public int solve() {
        if (cannotSearch()) {
            return NONE;
        }
        searchOnce();
        if (search.leastCost == NONE) {
            best.size = 0;
            bestCost = NONE;
            return 0;
        }
        search.writeLine(best);
        bestCost = search.leastCost;
        bestPerNote = setup.perNote;
        bestLength = setup.length;
        return 1;
    }

    public int found(int i) {
        return best.at(i);
    }

    public int cost() {
        return bestCost;
    }

    public long count() {
        if (cannotSearch()) {
            return NONE;
        }
        searchOnce();
        return search.allLines;
    }

    public long ties() {
        if (cannotSearch()) {
            return NONE;
        }
        searchOnce();
        return search.leastLines;
    }

    public int reach() {
        if (cannotSearch()) {
            return NONE;
        }
        prices.fill();
        return search.longestBeginning();
    }

    public int keep() {
        if (best.size == 0 || setup.lines == 0 || !setup.hasPlaceFor(bestLength)) {
            return NONE;
        }
        setup.addLine(best, bestPerNote, bestLength);
        searched = false;
        return setup.lines - 1;
    }

    public int judge() {
        return cannotJudge() ? NONE : finder.examine(attempted);
    }

    public int fault(int k, int what) {
        return finder.tell(k, what);
    }

    public int tried() {
        return cannotJudge() ? NONE : rules.costOf(attempted);
    }

    public int told(int what) {
        switch (what) {
            case 0:
                return setup.lines;
            case 1:
                return setup.length;
            case 2:
                return setup.total();
            case 3:
                return draft.size;
            case 4:
                return attempted.size;
            case 5:
                return best.size;
            default:
                return NONE;
        }
    }

    private boolean cannotSearch() {
        return setup.lines == 0 || setup.choiceSize() == NONE;
    }

    private boolean cannotJudge() {
        return setup.lines == 0 || attempted.size != setup.total();
    }

    private void searchOnce() {
        if (!searched) {
            prices.fill();
            search.run();
            searched = true;
        }
    }

    private static int distance(int from, int to) {
        return from < to ? to - from : from - to;
    }

    /** Some notes in a row. */
    private static final class Line {
        private final int[] notes = new int[MAX_NOTES];
        private int size = 0;

        private Line() {
        }

        private int at(int i) {
            return i >= 0 && i < size ? notes[i] : NONE;
        }

        private void append(int pitch) {
            if (size < MAX_NOTES) {
                notes[size] = pitch;
                size++;
            }
        }

        private void copyOf(Line other) {
            for (int i = 0; i < other.size; i++) {
                notes[i] = other.notes[i];
            }
            size = other.size;
        }
    }

    /** What the caller has set: NUMBERS, RULES, SPECIES and the given lines. */
    private static final class Setup {
        private final int[] numbers = new int[NUMBERS];
        private final boolean[] on = new boolean[RULES];
        private final int[][] given = new int[MAX_GIVEN][MAX_LENGTH];
        private int lines = 0;
        /** n; 0 while no line is given. */
        private int length = 0;
        /** K; always 1, 2 or 4, so that it may divide. */
        private int perNote = 1;
        private boolean above = true;

        private Setup() {
            for (int i = 0; i < NUMBERS; i++) {
                numbers[i] = AT_FIRST[i];
            }
            for (int i = 0; i < RULES; i++) {
                on[i] = true;
            }
        }

        /** N; 0 while no line is given. */
        private int total() {
            return lines == 0 ? 0 : perNote * (length - 1) + 1;
        }

        private boolean hasPlaceFor(int size) {
            return lines < MAX_GIVEN && size >= MIN_LENGTH && size <= MAX_LENGTH && (lines == 0 || size == length);
        }

        /** Gives the notes 0, every, 2 every .. of a line; the caller has asked hasPlaceFor. */
        private void addLine(Line from, int every, int size) {
            for (int i = 0; i < size; i++) {
                given[lines][i] = from.at(i * every);
            }
            lines++;
            length = size;
        }

        private void removeLine() {
            lines--;
            if (lines == 0) {
                length = 0;
            }
        }

        private boolean isChosen(int pitch) {
            return (numbers[MODE] >> (pitch % OCTAVE) & 1) == 1;
        }

        private int choiceSize() {
            int size = 0;
            for (int pitch = numbers[LOW]; pitch <= numbers[HIGH]; pitch++) {
                if (isChosen(pitch)) {
                    size++;
                }
            }
            return size > MAX_CHOICE ? NONE : size;
        }

        /** Writes THE CHOICE, lowest first; answers how many there are, as many as fit. */
        private int writeChoice(int[] pitches) {
            int size = 0;
            for (int pitch = numbers[LOW]; pitch <= numbers[HIGH] && size < pitches.length; pitch++) {
                if (isChosen(pitch)) {
                    pitches[size] = pitch;
                    size++;
                }
            }
            return size;
        }
    }

    /**
     * What breaks each rule, and what each COST is asked of, told of single notes and moves, whether the rule is
     * on or not: finding faults and searching ask the same.
     */
    private static final class Rules {
        private final Setup setup;

        private Rules(Setup setup) {
            this.setup = setup;
        }

        private boolean isIn(int which, int bit) {
            return (setup.numbers[which] >> bit & 1) == 1;
        }

        private boolean isStrong(int j) {
            return j % setup.perNote == 0;
        }

        private int classWith(int line, int j, int pitch) {
            int interval = pitch - setup.given[line][j / setup.perNote];
            return (interval < 0 ? -interval : interval) % OCTAVE;
        }

        private boolean isHardWith(int line, int j, int pitch) {
            return !isIn(CONSONANT, classWith(line, j, pitch));
        }

        private boolean isHard(int j, int pitch) {
            for (int line = 0; line < setup.lines; line++) {
                if (!isIn(CONSONANT, classWith(line, j, pitch))) {
                    return true;
                }
            }
            return false;
        }

        private boolean isStepwise(int from, int to) {
            return from != to && distance(from, to) <= setup.numbers[STEP];
        }

        /** Of the STRONG MOVE that ends at the STRONG note j. */
        private boolean isAlike(int line, int j, int from, int to) {
            int against = j / setup.perNote;
            if (against < 1) {
                return false;
            }
            int before = setup.given[line][against - 1];
            int now = setup.given[line][against];
            return from < to && before < now || from > to && before > now;
        }

        private boolean isParallel(int line, int j, int from, int to) {
            int now = classWith(line, j, to);
            return isAlike(line, j, from, to) && isIn(PERFECT, now) && now == classWith(line, j - setup.perNote, from);
        }

        private boolean isHidden(int line, int j, int from, int to) {
            return isAlike(line, j, from, to) && isIn(PERFECT, classWith(line, j, to))
                && distance(from, to) > setup.numbers[STEP];
        }

        private boolean isCrossing(int line, int j, int pitch) {
            int against = setup.given[line][j / setup.perNote];
            return setup.above ? pitch < against : pitch > against;
        }

        private boolean isPassing(int before, int pitch, int after) {
            return (before < pitch) == (pitch < after) && isStepwise(before, pitch) && isStepwise(pitch, after);
        }

        private boolean isLeaping(int from, int to) {
            int size = distance(from, to);
            return size > setup.numbers[LEAP] || size <= MAX_BARRED && isIn(BARRED, size);
        }

        private boolean mustTurn(int from, int to) {
            return distance(from, to) > setup.numbers[BACK];
        }

        private boolean isNotTurned(int before, int from, int to) {
            boolean turned = (before < from) == (to < from) && isStepwise(from, to);
            return mustTurn(before, from) && !turned;
        }

        private boolean isBadOpening(int pitch) {
            return !isIn(FIRST, classWith(0, 0, pitch));
        }

        private boolean isBadClosing(int j, int from, int to) {
            return !isIn(LAST, classWith(0, j, to)) || !isStepwise(from, to);
        }

        private int noteCost(int j, int pitch) {
            if (!isStrong(j)) {
                return isHard(j, pitch) ? setup.numbers[COST_HARD] : 0;
            }
            if (j == 0 || j == setup.total() - 1) {
                return 0;
            }
            int sum = 0;
            for (int line = 0; line < setup.lines; line++) {
                if (isIn(PERFECT, classWith(line, j, pitch))) {
                    sum += setup.numbers[COST_PERFECT];
                }
            }
            return sum;
        }

        private int moveCost(int from, int to) {
            int size = distance(from, to);
            int sum = size * setup.numbers[COST_SEMITONE];
            if (size == 0) {
                sum += setup.numbers[COST_STAY];
            }
            if (size > setup.numbers[STEP]) {
                sum += setup.numbers[COST_SKIP];
            }
            return sum;
        }

        private int strongMoveCost(int j, int from, int to) {
            int sum = 0;
            for (int line = 0; line < setup.lines; line++) {
                if (isAlike(line, j, from, to)) {
                    sum += setup.numbers[COST_ALIKE];
                }
            }
            return sum;
        }

        private int costOf(Line line) {
            int sum = 0;
            for (int j = 0; j < line.size; j++) {
                sum += noteCost(j, line.notes[j]);
                if (j >= 1) {
                    sum += moveCost(line.notes[j - 1], line.notes[j]);
                }
                if (j >= setup.perNote && isStrong(j)) {
                    sum += strongMoveCost(j, line.notes[j - setup.perNote], line.notes[j]);
                }
            }
            return sum;
        }
    }

    /** Finds the FAULTS of a line, and holds those that are told. */
    private static final class FaultFinder {
        private final Setup setup;
        private final Rules rules;
        private final int[] faultRules = new int[MAX_TOLD];
        private final int[] faultNotes = new int[MAX_TOLD];
        private final int[] faultLines = new int[MAX_TOLD];
        private int faults = 0;
        private int highest = 0;
        private int firstHighest = 0;

        private FaultFinder(Setup setup, Rules rules) {
            this.setup = setup;
            this.rules = rules;
        }

        /** Answers how many FAULTS a line of N notes has; the caller has looked at its length. */
        private int examine(Line line) {
            faults = 0;
            findHighest(line);
            for (int j = 0; j < line.size; j++) {
                for (int rule = 0; rule < RULES; rule++) {
                    if (setup.on[rule]) {
                        ask(rule, line, j);
                    }
                }
            }
            return faults;
        }

        private int tell(int k, int what) {
            if (k < 0 || k >= faults || k >= MAX_TOLD) {
                return NONE;
            }
            switch (what) {
                case 0:
                    return faultRules[k];
                case 1:
                    return faultNotes[k];
                case 2:
                    return faultLines[k];
                default:
                    return NONE;
            }
        }

        private void findHighest(Line line) {
            highest = NONE;
            firstHighest = 0;
            for (int j = 0; j < line.size; j++) {
                if (line.notes[j] > highest) {
                    highest = line.notes[j];
                    firstHighest = j;
                }
            }
        }

        private void ask(int rule, Line line, int j) {
            if (rule >= PARALLEL && rule <= NOT_PASSING) {
                for (int with = 0; with < setup.lines; with++) {
                    if (breaksWith(with, rule, line, j)) {
                        addFault(rule, j, with);
                    }
                }
            } else if (breaksAlone(rule, line, j)) {
                addFault(rule, j, NONE);
            }
        }

        private void addFault(int rule, int j, int with) {
            if (faults < MAX_TOLD) {
                faultRules[faults] = rule;
                faultNotes[faults] = j;
                faultLines[faults] = with;
            }
            faults++;
        }

        private boolean breaksWith(int with, int rule, Line line, int j) {
            int pitch = line.notes[j];
            boolean endsStrongMove = j >= setup.perNote && rules.isStrong(j);
            switch (rule) {
                case PARALLEL:
                    return endsStrongMove && rules.isParallel(with, j, line.notes[j - setup.perNote], pitch);
                case HIDDEN:
                    return endsStrongMove && rules.isHidden(with, j, line.notes[j - setup.perNote], pitch);
                case CROSSING:
                    return rules.isCrossing(with, j, pitch);
                case NOT_PASSING:
                    return !rules.isStrong(j) && j >= 1 && j + 1 < line.size && rules.isHardWith(with, j, pitch)
                        && !rules.isPassing(line.notes[j - 1], pitch, line.notes[j + 1]);
                default:
                    return false;
            }
        }

        private boolean breaksAlone(int rule, Line line, int j) {
            int pitch = line.notes[j];
            switch (rule) {
                case DISSONANT:
                    return rules.isStrong(j) && rules.isHard(j, pitch);
                case LEAPING:
                    return j >= 1 && rules.isLeaping(line.notes[j - 1], pitch);
                case NOT_TURNED:
                    return j >= 2 && rules.isNotTurned(line.notes[j - 2], line.notes[j - 1], pitch);
                case REPEATED:
                    return isRepeated(line, j);
                case OPENING:
                    return j == 0 && rules.isBadOpening(pitch);
                case CLOSING:
                    return j >= 1 && j == line.size - 1 && rules.isBadClosing(j, line.notes[j - 1], pitch);
                case SUMMIT:
                    return pitch == highest && j != firstHighest;
                default:
                    return false;
            }
        }

        private boolean isRepeated(Line line, int j) {
            int before = setup.numbers[REPEATS];
            if (j < before) {
                return false;
            }
            for (int i = j - before; i < j; i++) {
                if (line.notes[i] != line.notes[j]) {
                    return false;
                }
            }
            return true;
        }
    }

    /**
     * What each note, move and STRONG MOVE over THE CHOICE costs, or that it is FORBIDDEN. Notes are numbers in
     * THE CHOICE here, lowest first. The tables spare the search asking the rules again for every line.
     */
    private static final class Prices {
        private static final int FORBIDDEN = -1;
        private static final int C = MAX_CHOICE;

        private final Setup setup;
        private final Rules rules;
        private final int[] pitches = new int[C];
        private final int[] notePrices = new int[MAX_NOTES * C];
        /** Notes to which rule 4 would object were they not PASSING. */
        private final boolean[] mustPass = new boolean[MAX_NOTES * C];
        private final int[] movePrices = new int[C * C];
        /** Moves behind which rule 6 asks for another one. */
        private final boolean[] mustTurn = new boolean[C * C];
        private final boolean[] badClosings = new boolean[C * C];
        private final boolean[] badTurns = new boolean[C * C * C];
        private final boolean[] passings = new boolean[C * C * C];
        private final int[] strongPrices = new int[MAX_LENGTH * C * C];
        private int size = 0;
        private int total = 0;
        private int perNote = 1;
        /** How many like notes may come in a row; 0 while any number may. */
        private int mostAlike = 0;

        private Prices(Setup setup, Rules rules) {
            this.setup = setup;
            this.rules = rules;
        }

        private void fill() {
            size = setup.writeChoice(pitches);
            total = setup.total();
            perNote = setup.perNote;
            mostAlike = setup.on[REPEATED] ? setup.numbers[REPEATS] : 0;
            fillNotes();
            fillMoves();
            fillTurns();
            fillStrongMoves();
        }

        private void fillNotes() {
            for (int j = 0; j < total; j++) {
                for (int i = 0; i < size; i++) {
                    boolean bad = isBadNote(j, pitches[i]);
                    notePrices[j * C + i] = bad ? FORBIDDEN : rules.noteCost(j, pitches[i]);
                    mustPass[j * C + i] = setup.on[NOT_PASSING] && !rules.isStrong(j) && rules.isHard(j, pitches[i]);
                }
            }
        }

        private boolean isBadNote(int j, int pitch) {
            if (setup.on[DISSONANT] && rules.isStrong(j) && rules.isHard(j, pitch)) {
                return true;
            }
            if (setup.on[OPENING] && j == 0 && rules.isBadOpening(pitch)) {
                return true;
            }
            for (int line = 0; setup.on[CROSSING] && line < setup.lines; line++) {
                if (rules.isCrossing(line, j, pitch)) {
                    return true;
                }
            }
            return false;
        }

        private void fillMoves() {
            for (int from = 0; from < size; from++) {
                for (int to = 0; to < size; to++) {
                    int at = from * C + to;
                    boolean bad = setup.on[LEAPING] && rules.isLeaping(pitches[from], pitches[to]);
                    movePrices[at] = bad ? FORBIDDEN : rules.moveCost(pitches[from], pitches[to]);
                    mustTurn[at] = setup.on[NOT_TURNED] && rules.mustTurn(pitches[from], pitches[to]);
                    badClosings[at] = setup.on[CLOSING] && rules.isBadClosing(total - 1, pitches[from], pitches[to]);
                }
            }
        }

        private void fillTurns() {
            for (int before = 0; before < size; before++) {
                for (int from = 0; from < size; from++) {
                    for (int to = 0; to < size; to++) {
                        int at = (before * C + from) * C + to;
                        badTurns[at] = setup.on[NOT_TURNED]
                            && rules.isNotTurned(pitches[before], pitches[from], pitches[to]);
                        passings[at] = rules.isPassing(pitches[before], pitches[from], pitches[to]);
                    }
                }
            }
        }

        private void fillStrongMoves() {
            for (int against = 1; against < setup.length; against++) {
                int j = against * perNote;
                for (int from = 0; from < size; from++) {
                    for (int to = 0; to < size; to++) {
                        boolean bad = isBadStrongMove(j, pitches[from], pitches[to]);
                        strongPrices[(against * C + from) * C + to] =
                            bad ? FORBIDDEN : rules.strongMoveCost(j, pitches[from], pitches[to]);
                    }
                }
            }
        }

        private boolean isBadStrongMove(int j, int from, int to) {
            for (int line = 0; line < setup.lines; line++) {
                if (setup.on[PARALLEL] && rules.isParallel(line, j, from, to)
                    || setup.on[HIDDEN] && rules.isHidden(line, j, from, to)) {
                    return true;
                }
            }
            return false;
        }

        /** Of going on from two notes (before, from) to note j: whether rule 4 or 6 objects. */
        private boolean isBadTurn(int j, int before, int from, int to) {
            int at = (before * C + from) * C + to;
            return j >= 2 && (badTurns[at] || mustPass[(j - 1) * C + from] && !passings[at]);
        }

        /** Whether what may come behind note j hangs on the one before it. */
        private boolean looksBack(int j, int from, int to) {
            return mustPass[j * C + to] || mustTurn[from * C + to];
        }

        private boolean endsStrongMove(int j) {
            return j >= perNote && j % perNote == 0;
        }

        private int strongPrice(int j, int from, int to) {
            return strongPrices[(j / perNote * C + from) * C + to];
        }
    }

    /**
     * Goes through all beginnings at once: those that can be gone on with alike are one state. A state holds the
     * latest note, the one before (or the latest again, where nothing hangs on it), the latest STRONG one, how many
     * like notes come last, and whether the highest note of the line has come. For rule 10 each note of THE CHOICE is
     * the highest in turn.
     */
    private static final class Search {
        private static final int BEFORE = 3;
        private static final int STRONG = 6;
        private static final int USED = 9;
        private static final int ALIKE = 10;
        private static final int NOTE_BITS = 7;
        private static final int STATES = 3 << ALIKE;
        /** Most states of one layer: one to three like notes come last where the latest two are the same, else one. */
        private static final int WIDTH = 2 * MAX_CHOICE * (MAX_CHOICE * (MAX_CHOICE - 1) + 3 * MAX_CHOICE);

        private final Setup setup;
        private final Prices prices;
        /** The states that beginnings of j + 1 notes are in, from j * WIDTH on. */
        private final int[] layers = new int[MAX_NOTES * WIDTH];
        private final int[] layerSizes = new int[MAX_NOTES];
        /** The place in the layer behind of the state in which the lowest line of least COST goes on. */
        private final int[] nexts = new int[MAX_NOTES * WIDTH];
        /** Where each state of a layer stands in it. */
        private final int[] places = new int[STATES];
        /** The latest layer into which each state was entered; each layer has a mark of its own. */
        private final int[] marks = new int[STATES];
        private int mark = 0;
        /** What can come behind a state; of two layers, as each needs the one behind it alone. */
        private final int[] restCosts = new int[2 * WIDTH];
        private final long[] restLines = new long[2 * WIDTH];
        private final long[] restLeastLines = new long[2 * WIDTH];
        private final int[] lowest = new int[MAX_NOTES];
        private final int[] traced = new int[MAX_NOTES];
        /** The number in THE CHOICE of the highest note asked for; beyond all of them when none is. */
        private int top = 0;
        private boolean closes = false;
        private int leastCost = NONE;
        private long allLines = 0;
        private long leastLines = 0;

        private Search(Setup setup, Prices prices) {
            this.setup = setup;
            this.prices = prices;
        }

        /** Finds the line, its COST and both counts; the prices are filled. */
        private void run() {
            leastCost = NONE;
            allLines = 0;
            leastLines = 0;
            closes = true;
            int from = setup.on[SUMMIT] ? 0 : prices.size;
            int to = setup.on[SUMMIT] ? prices.size - 1 : prices.size;
            for (int highest = from; highest <= to; highest++) {
                top = highest;
                if (spread() == prices.total) {
                    weigh();
                    gather();
                }
            }
        }

        private int longestBeginning() {
            closes = false;
            top = prices.size;
            return spread();
        }

        private void writeLine(Line line) {
            line.size = 0;
            for (int j = 0; j < prices.total; j++) {
                line.append(prices.pitches[lowest[j]]);
            }
        }

        /** Finds the states of each layer; answers how many layers have some. */
        private int spread() {
            beginLayer(0);
            for (int i = 0; i < prices.size && i <= top; i++) {
                if (prices.notePrices[i] != Prices.FORBIDDEN) {
                    enter(0, firstState(i));
                }
            }
            int filled = layerSizes[0] > 0 ? 1 : 0;
            for (int j = 1; j < prices.total && filled == j; j++) {
                extendTo(j);
                if (layerSizes[j] > 0) {
                    filled++;
                }
            }
            return filled;
        }

        private void beginLayer(int j) {
            layerSizes[j] = 0;
            mark++;
        }

        private void enter(int j, int state) {
            if (marks[state] != mark && layerSizes[j] < WIDTH) {
                marks[state] = mark;
                layers[j * WIDTH + layerSizes[j]] = state;
                layerSizes[j]++;
            }
        }

        private void extendTo(int j) {
            beginLayer(j);
            for (int i = 0; i < layerSizes[j - 1]; i++) {
                int state = layers[(j - 1) * WIDTH + i];
                for (int to = 0; to < prices.size; to++) {
                    if (priceOf(j, state, to) != Prices.FORBIDDEN) {
                        enter(j, stateAfter(j, state, to));
                    }
                }
            }
        }

        private int firstState(int first) {
            int used = first == top ? 1 : 0;
            return first | first << BEFORE | first << STRONG | used << USED;
        }

        private int stateAfter(int j, int state, int to) {
            int latest = state & NOTE_BITS;
            int before = prices.looksBack(j, latest, to) ? latest : to;
            int strong = j % prices.perNote == 0 ? to : state >> STRONG & NOTE_BITS;
            int used = to == top ? 1 : state >> USED & 1;
            int alike = to == latest && prices.mostAlike > 0 ? (state >> ALIKE) + 1 : 0;
            return to | before << BEFORE | strong << STRONG | used << USED | alike << ALIKE;
        }

        /** What note j adds to the COST of a beginning in a state; FORBIDDEN when it breaks a rule. */
        private int priceOf(int j, int state, int to) {
            int latest = state & NOTE_BITS;
            int price = prices.notePrices[j * MAX_CHOICE + to];
            int move = prices.movePrices[latest * MAX_CHOICE + to];
            if (price == Prices.FORBIDDEN || move == Prices.FORBIDDEN || isOverTop(state, to)
                || isOnceTooOften(state, to) || prices.isBadTurn(j, state >> BEFORE & NOTE_BITS, latest, to)) {
                return Prices.FORBIDDEN;
            }
            if (closes && j == prices.total - 1 && isBadEnd(state, to)) {
                return Prices.FORBIDDEN;
            }
            if (!prices.endsStrongMove(j)) {
                return price + move;
            }
            int strong = prices.strongPrice(j, state >> STRONG & NOTE_BITS, to);
            return strong == Prices.FORBIDDEN ? Prices.FORBIDDEN : price + move + strong;
        }

        private boolean isOverTop(int state, int to) {
            return to > top || to == top && (state >> USED & 1) == 1;
        }

        private boolean isOnceTooOften(int state, int to) {
            return prices.mostAlike > 0 && to == (state & NOTE_BITS) && (state >> ALIKE) + 1 >= prices.mostAlike;
        }

        private boolean isBadEnd(int state, int to) {
            boolean lacksTop = top < prices.size && to != top && (state >> USED & 1) == 0;
            return lacksTop || prices.badClosings[(state & NOTE_BITS) * MAX_CHOICE + to];
        }

        /** From the last layer back: what the rest of a line can come to from each state. */
        private void weigh() {
            int last = prices.total - 1;
            for (int i = 0; i < layerSizes[last]; i++) {
                int at = restAt(last, i);
                restCosts[at] = 0;
                restLines[at] = 1;
                restLeastLines[at] = 1;
            }
            for (int j = last - 1; j >= 0; j--) {
                writePlaces(j + 1);
                for (int i = 0; i < layerSizes[j]; i++) {
                    weighState(j, i);
                }
            }
        }

        private static int restAt(int j, int i) {
            return (j & 1) * WIDTH + i;
        }

        private void writePlaces(int j) {
            for (int i = 0; i < layerSizes[j]; i++) {
                places[layers[j * WIDTH + i]] = i;
            }
        }

        private void weighState(int j, int i) {
            int state = layers[j * WIDTH + i];
            int at = restAt(j, i);
            restCosts[at] = NONE;
            restLines[at] = 0;
            restLeastLines[at] = 0;
            for (int to = 0; to < prices.size; to++) {
                int price = priceOf(j + 1, state, to);
                if (price != Prices.FORBIDDEN) {
                    int next = places[stateAfter(j + 1, state, to)];
                    if (addWay(at, restAt(j + 1, next), price)) {
                        nexts[j * WIDTH + i] = next;
                    }
                }
            }
        }

        /** Adds one way to go on; answers whether it costs less than those before it. */
        private boolean addWay(int at, int behind, int price) {
            if (restCosts[behind] == NONE) {
                return false;
            }
            int sum = price + restCosts[behind];
            restLines[at] += restLines[behind];
            if (restCosts[at] == NONE || sum < restCosts[at]) {
                restCosts[at] = sum;
                restLeastLines[at] = restLeastLines[behind];
                return true;
            }
            if (sum == restCosts[at]) {
                restLeastLines[at] += restLeastLines[behind];
            }
            return false;
        }

        /** Joins the lines with this highest note to those found before. */
        private void gather() {
            for (int i = 0; i < layerSizes[0]; i++) {
                int at = restAt(0, i);
                if (restCosts[at] != NONE) {
                    allLines += restLines[at];
                    gatherLeast(i, prices.notePrices[layers[i] & NOTE_BITS] + restCosts[at], restLeastLines[at]);
                }
            }
        }

        private void gatherLeast(int first, int sum, long lines) {
            if (leastCost != NONE && sum > leastCost) {
                return;
            }
            boolean less = leastCost == NONE || sum < leastCost;
            leastLines = less ? lines : leastLines + lines;
            leastCost = sum;
            trace(first);
            if (less || isTracedLower()) {
                keepTraced();
            }
        }

        private void trace(int first) {
            int i = first;
            for (int j = 0; j < prices.total; j++) {
                traced[j] = layers[j * WIDTH + i] & NOTE_BITS;
                i = nexts[j * WIDTH + i];
            }
        }

        private boolean isTracedLower() {
            for (int j = 0; j < prices.total; j++) {
                if (traced[j] != lowest[j]) {
                    return traced[j] < lowest[j];
                }
            }
            return false;
        }

        private void keepTraced() {
            for (int j = 0; j < prices.total; j++) {
                lowest[j] = traced[j];
            }
        }
    }
}
