import java.util.Arrays;

/**
 * A press for number crosses: boards with barred cells and runs with sums, answers found by
 * trying, puzzles that are mended until they have one answer, candidates taken away by rules of
 * rising hardness, hints, and all fillings of small boards.
 */
public final class Gridpuzzle {
    /** None. */
    public static final int NONE = -1;

    private static final int LEAST_SIZE = 2;
    private static final int FIRST_SIZE = 3;
    private static final int MOST_SIZE = 4;
    private static final int CELLS = MOST_SIZE * MOST_SIZE;
    // No line of four cells has room for two runs, so there is at most one for each line.
    private static final int MOST_RUNS = 2 * MOST_SIZE;
    private static final int MOST_DIGIT = 9;
    private static final int ALL_DIGITS = 0x3FE;
    private static final int MOST_SUM = 45;
    private static final int MOST_ANSWERS = 5;
    private static final int MOST_TRIES = 20000;
    private static final int MOST_BLANKS_FOR_ALL = 4;
    private static final int RULES = 3;
    // Far above any need: a going through takes one of 144 candidates or is one of three in a row.
    private static final int MOST_GOINGS = 1000;

    private final Board board;
    private final Trying trying;
    private final Solving solving;

    /** Creates a press with a board of 3 rows and columns, as begin() makes it. */
    public Gridpuzzle() {
        board = new Board();
        trying = new Trying(board);
        solving = new Solving(board);
        board.clear(FIRST_SIZE);
    }

    // ---- drawing

    /** Begins a board, all open, without digits and sums. */
    public void begin(int size) throws IllegalArgumentException {
        if (size < LEAST_SIZE || size > MOST_SIZE) {
            throw new IllegalArgumentException("a size is 2 to 4");
        }
        board.clear(size);
    }

    /** Bars an open cell, whose digit goes, or opens a barred one: true if it is barred then. */
    public boolean bar(int cell) throws IndexOutOfBoundsException {
        needCell(cell);
        board.turn(cell);
        return !board.isOpen(cell);
    }

    /** Does the same with a cell and the one opposite to it: how many cells are barred then. */
    public int barBoth(int cell) throws IndexOutOfBoundsException {
        needCell(cell);
        int opposite = board.oppositeOf(cell);
        board.turn(cell);
        if (opposite != cell) {
            board.turn(opposite);
        }
        return board.countBarred();
    }

    /** Gives a digit, or takes it away with 0: the digit before, 0 if there was none. */
    public int give(int cell, int digit)
            throws IndexOutOfBoundsException, IllegalArgumentException, IllegalStateException {
        needCell(cell);
        if (digit < 0 || digit > MOST_DIGIT) {
            throw new IllegalArgumentException("a digit is 1 to 9, or 0 for none");
        }
        if (!board.isOpen(cell)) {
            throw new IllegalStateException("a barred cell takes no digit");
        }
        int before = board.givenAt(cell);
        board.putGiven(cell, digit);
        return before;
    }

    /** Sets the sum of a run, 0 for none: the sum before, 0 if there was none. */
    public int setSum(int run, int sum)
            throws IndexOutOfBoundsException, IllegalArgumentException {
        needRun(run);
        if (sum < 0 || sum > MOST_SUM) {
            throw new IllegalArgumentException("a sum is 1 to 45, or 0 for none");
        }
        int before = board.sumAt(run);
        board.putSum(run, sum);
        return before;
    }

    /** Makes a puzzle of a filled board, of its sums alone: how many runs there are. */
    public int press() throws IllegalStateException {
        if (!board.isFilled()) {
            throw new IllegalStateException("an open cell has no digit");
        }
        if (board.givesTwice()) {
            throw new IllegalStateException("a digit occurs twice in a run");
        }
        board.sumAndEmpty();
        return board.countRuns();
    }

    // ---- the board

    /** Returns how many open cells there are. */
    public int open() {
        return board.countOpen();
    }

    /** Returns how many runs there are. */
    public int runs() {
        return board.countRuns();
    }

    /** Returns the first cell of a run. */
    public int firstOf(int run) throws IndexOutOfBoundsException {
        needRun(run);
        return board.firstAt(run);
    }

    /** Returns how many cells a run has. */
    public int lengthOf(int run) throws IndexOutOfBoundsException {
        needRun(run);
        return board.lengthAt(run);
    }

    /** Returns the sum of a run; 0 if it has none. */
    public int sumOf(int run) throws IndexOutOfBoundsException {
        needRun(run);
        return board.sumAt(run);
    }

    /** Returns the given digit of a cell; 0 if it has none; NONE if it is barred. */
    public int digit(int cell) throws IndexOutOfBoundsException {
        needCell(cell);
        return board.givenAt(cell);
    }

    // ---- answers

    /** Counts answers by trying, and ends with so many; NONE if it was given up. */
    public int answers(int most) throws IllegalArgumentException {
        if (most < 1 || most > MOST_ANSWERS) {
            throw new IllegalArgumentException("so many answers are 1 to 5");
        }
        return trying.find(most);
    }

    /** Counts all answers by going through all fillings. */
    public int answersByAll() throws IllegalStateException {
        if (board.countBlanks() > MOST_BLANKS_FOR_ALL) {
            throw new IllegalStateException("more than 4 open cells have no given digit");
        }
        return trying.countByAll();
    }

    /** Gives the first cell in which the first two answers differ the digit of the first one. */
    public int mend() throws IllegalStateException {
        int found = trying.find(2);
        if (found == NONE) {
            throw new IllegalStateException("trying for two answers is given up");
        }
        if (found < 2) {
            return NONE;
        }
        int cell = trying.firstUnlike();
        if (cell != NONE) {
            board.putGiven(cell, trying.firstAnswerAt(cell));
        }
        return cell;
    }

    // ---- rules

    /** Returns the level of solving by rules; NONE if some open cell keeps not just one candidate. */
    public int level() {
        solving.solve(RULES);
        return solving.isSolved() ? solving.greatestRule() : NONE;
    }

    /** Returns the candidates of a cell behind the first rules, as bits; 0 for a barred cell. */
    public int candidates(int cell, int last)
            throws IndexOutOfBoundsException, IllegalArgumentException {
        needCell(cell);
        if (last < 0 || last > RULES) {
            throw new IllegalArgumentException("the last rule is 0 to 3");
        }
        solving.solve(last);
        return solving.setAt(cell);
    }

    /** Returns the cell that the fewest rules bring to one candidate; NONE if no rules do. */
    public int hint() {
        solving.solveToHint();
        return solving.firstFound();
    }

    /** Returns how many rules hint() needs, 1 to 3; NONE if it tells NONE. */
    public int hintRules() {
        return solving.solveToHint();
    }

    private void needCell(int cell) throws IndexOutOfBoundsException {
        if (!board.hasCell(cell)) {
            throw new IndexOutOfBoundsException("there is no such cell");
        }
    }

    private void needRun(int run) throws IndexOutOfBoundsException {
        if (!board.hasRun(run)) {
            throw new IndexOutOfBoundsException("there is no such run");
        }
    }

    // Rows are read and written by these two alone, so that no index makes the machine throw.

    private static int at(int[] row, int index) {
        return index >= 0 && index < row.length ? row[index] : 0;
    }

    private static void put(int[] row, int index, int value) {
        if (index >= 0 && index < row.length) {
            row[index] = value;
        }
    }

    /** The cells with their given digits, and the runs with their sums. */
    private static final class Board {
        private int size;
        private int runCount;
        // A barred cell holds NONE here, one without a digit 0.
        private final int[] givens = new int[CELLS];
        private final int[] firsts = new int[MOST_RUNS];
        private final int[] steps = new int[MOST_RUNS];
        private final int[] lengths = new int[MOST_RUNS];
        private final int[] sums = new int[MOST_RUNS];
        private final int[] rowRuns = new int[CELLS];
        private final int[] columnRuns = new int[CELLS];

        void clear(int newSize) {
            size = newSize;
            Arrays.fill(givens, 0);
            findRuns();
        }

        boolean hasCell(int cell) {
            return cell >= 0 && cell < CELLS && cell / MOST_SIZE < size && cell % MOST_SIZE < size;
        }

        boolean isOpen(int cell) {
            return hasCell(cell) && at(givens, cell) != NONE;
        }

        int givenAt(int cell) {
            return at(givens, cell);
        }

        void putGiven(int cell, int digit) {
            put(givens, cell, digit);
        }

        /** Bars an open cell or opens a barred one. */
        void turn(int cell) {
            put(givens, cell, isOpen(cell) ? NONE : 0);
            findRuns();
        }

        /** The cell that comes to this one's place when the board is turned by a half. */
        int oppositeOf(int cell) {
            int row = size - 1 - cell / MOST_SIZE;
            int column = size - 1 - cell % MOST_SIZE;
            return row * MOST_SIZE + column;
        }

        int countOpen() {
            int count = 0;
            for (int cell = 0; cell < CELLS; cell++) {
                if (isOpen(cell)) {
                    count++;
                }
            }
            return count;
        }

        int countBarred() {
            return size * size - countOpen();
        }

        boolean isBlank(int cell) {
            return hasCell(cell) && at(givens, cell) == 0;
        }

        int countBlanks() {
            int count = 0;
            for (int cell = 0; cell < CELLS; cell++) {
                if (isBlank(cell)) {
                    count++;
                }
            }
            return count;
        }

        int countRuns() {
            return runCount;
        }

        boolean hasRun(int run) {
            return run >= 0 && run < runCount;
        }

        int firstAt(int run) {
            return at(firsts, run);
        }

        int lengthAt(int run) {
            return at(lengths, run);
        }

        int sumAt(int run) {
            return at(sums, run);
        }

        void putSum(int run, int sum) {
            put(sums, run, sum);
        }

        /** The cell at a place of a run, the places numbered from 0. */
        int cellAt(int run, int place) {
            return at(firsts, run) + place * at(steps, run);
        }

        /** The run in a row that has the cell; NONE if there is none. */
        int rowRunOf(int cell) {
            return at(rowRuns, cell);
        }

        /** The run in a column that has the cell; NONE if there is none. */
        int columnRunOf(int cell) {
            return at(columnRuns, cell);
        }

        private void findRuns() {
            runCount = 0;
            Arrays.fill(sums, 0);
            Arrays.fill(rowRuns, NONE);
            Arrays.fill(columnRuns, NONE);
            for (int row = 0; row < size; row++) {
                findRunsOfLine(row * MOST_SIZE, 1);
            }
            for (int column = 0; column < size; column++) {
                findRunsOfLine(column, MOST_SIZE);
            }
        }

        private void findRunsOfLine(int start, int step) {
            int length = 0;
            // One place more than the line has, so that a run at its end is closed too.
            for (int place = 0; place <= size; place++) {
                if (place < size && isOpen(start + place * step)) {
                    length++;
                } else {
                    addRun(start + (place - length) * step, step, length);
                    length = 0;
                }
            }
        }

        private void addRun(int first, int step, int length) {
            if (length < 2) {
                return;
            }
            put(firsts, runCount, first);
            put(steps, runCount, step);
            put(lengths, runCount, length);
            for (int place = 0; place < length; place++) {
                put(step == 1 ? rowRuns : columnRuns, first + place * step, runCount);
            }
            runCount++;
        }

        boolean isFilled() {
            return countBlanks() == 0;
        }

        boolean givesTwice() {
            for (int run = 0; run < runCount; run++) {
                if (hasTwice(run, givens)) {
                    return true;
                }
            }
            return false;
        }

        void sumAndEmpty() {
            for (int run = 0; run < runCount; run++) {
                put(sums, run, totalOf(run, givens));
            }
            for (int cell = 0; cell < CELLS; cell++) {
                if (isOpen(cell)) {
                    put(givens, cell, 0);
                }
            }
        }

        /** Whether a filling, with a digit for each open cell, is an answer. */
        boolean isAnswer(int[] filling) {
            for (int run = 0; run < runCount; run++) {
                int sum = sumAt(run);
                if (hasTwice(run, filling) || sum != 0 && totalOf(run, filling) != sum) {
                    return false;
                }
            }
            return true;
        }

        private boolean hasTwice(int run, int[] filling) {
            int seen = 0;
            int length = lengthAt(run);
            for (int place = 0; place < length; place++) {
                int bit = 1 << at(filling, cellAt(run, place));
                if ((seen & bit) != 0) {
                    return true;
                }
                seen |= bit;
            }
            return false;
        }

        private int totalOf(int run, int[] filling) {
            int total = 0;
            int length = lengthAt(run);
            for (int place = 0; place < length; place++) {
                total += at(filling, cellAt(run, place));
            }
            return total;
        }
    }

    /** Finds answers: by trying, and by going through all fillings. */
    private static final class Trying {
        private final Board board;
        private int blankCount;
        private final int[] blanks = new int[CELLS];
        // The last digit tried in each cell, good or not; 0 before its first one.
        private final int[] tried = new int[CELLS];
        // The digit that each cell has, given or by a good try; 0 if it has none.
        private final int[] filling = new int[CELLS];
        private final int[] firstAnswer = new int[CELLS];

        Trying(Board board) {
            this.board = board;
        }

        /** How many answers there are, as far as the most told; NONE if trying is given up. */
        int find(int most) {
            start();
            if (blankCount == 0) {
                return board.isAnswer(filling) ? 1 : 0;
            }
            int found = 0;
            int place = 0;
            for (int tries = 0; tries < MOST_TRIES; tries++) {
                boolean good = tryNext(at(blanks, place));
                if (good && place + 1 < blankCount) {
                    place++;
                } else if (good && board.isAnswer(filling)) {
                    found++;
                    if (found == 1) {
                        keepFirstAnswer();
                    }
                    if (found >= most) {
                        return found;
                    }
                }
                place = backFrom(place);
                if (place < 0) {
                    return found;
                }
            }
            return NONE;
        }

        /** How many of all fillings are answers; the board has few cells without a digit. */
        int countByAll() {
            start();
            int fillings = 1;
            for (int place = 0; place < blankCount; place++) {
                fillings *= MOST_DIGIT;
            }
            int found = 0;
            for (int number = 0; number < fillings; number++) {
                fillBy(number);
                if (board.isAnswer(filling)) {
                    found++;
                }
            }
            return found;
        }

        /** The first cell in which the first answer and the one found last differ. */
        int firstUnlike() {
            for (int cell = 0; cell < CELLS; cell++) {
                if (at(firstAnswer, cell) != at(filling, cell)) {
                    return cell;
                }
            }
            return NONE;
        }

        int firstAnswerAt(int cell) {
            return at(firstAnswer, cell);
        }

        private void start() {
            blankCount = 0;
            for (int cell = 0; cell < CELLS; cell++) {
                put(tried, cell, 0);
                put(filling, cell, board.isOpen(cell) ? board.givenAt(cell) : 0);
                if (board.isBlank(cell)) {
                    put(blanks, blankCount, cell);
                    blankCount++;
                }
            }
        }

        /** Tries the next digit of a cell, which has it then if the try is good. */
        private boolean tryNext(int cell) {
            int digit = at(tried, cell) + 1;
            put(tried, cell, digit);
            put(filling, cell, 0);
            if (!suits(board.rowRunOf(cell), digit) || !suits(board.columnRunOf(cell), digit)) {
                return false;
            }
            put(filling, cell, digit);
            return true;
        }

        /** Whether a digit is good in a run, whose cell that it is tried in has none now. */
        private boolean suits(int run, int digit) {
            if (run == NONE) {
                return true;
            }
            int without = 0;
            int total = digit;
            int length = board.lengthAt(run);
            for (int place = 0; place < length; place++) {
                int other = at(filling, board.cellAt(run, place));
                if (other == digit) {
                    return false;
                }
                if (other == 0) {
                    without++;
                }
                total += other;
            }
            int sum = board.sumAt(run);
            if (sum == 0) {
                return true;
            }
            return without > 1 ? total <= sum : total == sum;
        }

        /** Goes back past all cells that have been tried with the last digit; below 0 at the end. */
        private int backFrom(int place) {
            int back = place;
            while (back >= 0 && at(tried, at(blanks, back)) >= MOST_DIGIT) {
                put(tried, at(blanks, back), 0);
                put(filling, at(blanks, back), 0);
                back--;
            }
            return back;
        }

        private void keepFirstAnswer() {
            for (int cell = 0; cell < CELLS; cell++) {
                put(firstAnswer, cell, at(filling, cell));
            }
        }

        /** Fills the cells without a given digit by a number, read with the base 9. */
        private void fillBy(int number) {
            int rest = number;
            for (int place = 0; place < blankCount; place++) {
                put(filling, at(blanks, place), rest % MOST_DIGIT + 1);
                rest /= MOST_DIGIT;
            }
        }
    }

    /** Takes candidates away by the rules. */
    private static final class Solving {
        private final Board board;
        // The candidates of each cell: the bit d for the digit d.
        private final int[] sets = new int[CELLS];
        private final int[] setsOfRun = new int[MOST_SIZE];
        private boolean tookAway;
        private int greatest;

        Solving(Board board) {
            this.board = board;
        }

        /** Solves by the first rules alone, up to the last one told. */
        void solve(int last) {
            start();
            int rule = 1;
            for (int goings = 0; goings < MOST_GOINGS && rule <= last; goings++) {
                goThrough(rule);
                if (tookAway) {
                    greatest = Math.max(greatest, rule);
                }
                if (hasEmptyCell()) {
                    return;
                }
                rule = tookAway ? 1 : rule + 1;
            }
        }

        /** Solves by as few rules as bring a hint: how many; NONE, with all rules, if none do. */
        int solveToHint() {
            for (int last = 1; last <= RULES; last++) {
                solve(last);
                if (firstFound() != NONE) {
                    return last;
                }
            }
            return NONE;
        }

        int greatestRule() {
            return greatest;
        }

        int setAt(int cell) {
            return at(sets, cell);
        }

        boolean isSolved() {
            for (int cell = 0; cell < CELLS; cell++) {
                if (board.isOpen(cell) && !isSingle(at(sets, cell))) {
                    return false;
                }
            }
            return true;
        }

        /** The first cell without a given digit that has one candidate; NONE if there is none. */
        int firstFound() {
            for (int cell = 0; cell < CELLS; cell++) {
                if (board.isBlank(cell) && isSingle(at(sets, cell))) {
                    return cell;
                }
            }
            return NONE;
        }

        private void start() {
            greatest = 0;
            for (int cell = 0; cell < CELLS; cell++) {
                put(sets, cell, firstSetOf(cell));
            }
        }

        private int firstSetOf(int cell) {
            if (!board.isOpen(cell)) {
                return 0;
            }
            return board.isBlank(cell) ? ALL_DIGITS : 1 << board.givenAt(cell);
        }

        private boolean hasEmptyCell() {
            for (int cell = 0; cell < CELLS; cell++) {
                if (board.isOpen(cell) && at(sets, cell) == 0) {
                    return true;
                }
            }
            return false;
        }

        private void goThrough(int rule) {
            tookAway = false;
            int count = board.countRuns();
            for (int run = 0; run < count; run++) {
                if (rule == 1) {
                    takeSingles(run);
                } else if (board.sumAt(run) != 0) {
                    if (rule == 2) {
                        takeOutsideSets(run);
                    } else {
                        takeUnfit(run);
                    }
                }
            }
        }

        /** The rule 1: the digit of a cell with one candidate leaves the other cells of the run. */
        private void takeSingles(int run) {
            int length = board.lengthAt(run);
            for (int place = 0; place < length; place++) {
                int set = at(sets, board.cellAt(run, place));
                if (!isSingle(set)) {
                    continue;
                }
                for (int other = 0; other < length; other++) {
                    if (other != place) {
                        take(board.cellAt(run, other), set);
                    }
                }
            }
        }

        /** The rule 2: the digits of no set that can make the run's sum leave the run. */
        private void takeOutsideSets(int run) {
            int length = board.lengthAt(run);
            int singles = 0;
            for (int place = 0; place < length; place++) {
                int set = at(sets, board.cellAt(run, place));
                if (isSingle(set)) {
                    singles |= set;
                }
            }
            int kept = digitsOfSets(length, board.sumAt(run), singles);
            for (int place = 0; place < length; place++) {
                take(board.cellAt(run, place), ALL_DIGITS & ~kept);
            }
        }

        /** All digits of the sets of so many digits that make the sum and hold those told. */
        private static int digitsOfSets(int count, int sum, int held) {
            int digits = 0;
            for (int set = 0; set <= ALL_DIGITS; set += 2) {
                if (Integer.bitCount(set) == count && (set & held) == held && sumOfSet(set) == sum) {
                    digits |= set;
                }
            }
            return digits;
        }

        private static int sumOfSet(int set) {
            int sum = 0;
            for (int digit = 1; digit <= MOST_DIGIT; digit++) {
                if ((set & 1 << digit) != 0) {
                    sum += digit;
                }
            }
            return sum;
        }

        /** The rule 3: a candidate with which the run's cells cannot make its sum is taken. */
        private void takeUnfit(int run) {
            int length = board.lengthAt(run);
            for (int place = 0; place < length; place++) {
                put(setsOfRun, place, at(sets, board.cellAt(run, place)));
            }
            for (int place = 0; place < length; place++) {
                int cell = board.cellAt(run, place);
                for (int digit = 1; digit <= MOST_DIGIT; digit++) {
                    int bit = at(sets, cell) & 1 << digit;
                    // While a candidate is looked at, its cell has no other one.
                    put(setsOfRun, place, bit);
                    if (bit != 0 && !canMake(setsOfRun, length, board.sumAt(run), 0)) {
                        take(cell, bit);
                    }
                }
                put(setsOfRun, place, at(sets, cell));
            }
        }

        /** Whether the first sets can give unlike digits, none of those used, that make the sum. */
        private static boolean canMake(int[] sets, int count, int sum, int used) {
            if (count <= 0) {
                return sum == 0;
            }
            if (count > MOST_SIZE) {
                return false;
            }
            int free = at(sets, count - 1) & ~used;
            for (int digit = 1; digit <= MOST_DIGIT && digit <= sum; digit++) {
                int bit = 1 << digit;
                if ((free & bit) != 0 && canMake(sets, count - 1, sum - digit, used | bit)) {
                    return true;
                }
            }
            return false;
        }

        private void take(int cell, int digits) {
            int set = at(sets, cell);
            if ((set & digits) != 0) {
                put(sets, cell, set & ~digits);
                tookAway = true;
            }
        }

        private static boolean isSingle(int set) {
            return Integer.bitCount(set) == 1;
        }
    }
}
