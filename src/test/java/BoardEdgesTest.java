/**
 * All calls on the boards at the edge: without an open cell, without a run, without a blank cell,
 * with one of them alone; where a run begins and ends; and what is gone when a cell is barred.
 */
public final class BoardEdgesTest {
    private static final int ALL = 0x3FE;
    private static final int[][] CELLS = {
        {0, 1, 4, 5}, {0, 1, 2, 4, 5, 6, 8, 9, 10},
        {0, 1, 2, 3, 4, 5, 6, 7, 8, 9, 10, 11, 12, 13, 14, 15}
    };
    // Full boards without a digit twice in a run.
    private static final int[][] LAWFUL = {
        {9, 1, 1, 9}, {1, 2, 9, 2, 9, 1, 9, 1, 2},
        {1, 2, 3, 9, 2, 1, 9, 3, 3, 9, 1, 2, 9, 3, 2, 1}
    };

    public static void main(String[] args) {
        for (int size = 2; size <= 4; size++) {
            withoutOpenCells(size);
            opensFromNone(size);
            fullBoard(size);
            fullButOne(size);
            gone(size);
        }
        oneOpenCell();
        withoutRuns(2, 5);
        withoutRuns(3, 10);
        withoutRuns(4, 15);
        linesOfFour();
        noRunAroundTheEdge();
        blanksForAll();
        lastCall();
        Check.end("BoardEdgesTest");
    }

    private static Gridpuzzle allBarred(int size) {
        Gridpuzzle puzzle = Boards.drawn(size);
        for (int cell : CELLS[size - 2]) {
            puzzle.bar(cell);
        }
        return puzzle;
    }

    private static void dueAnswers(String what, Gridpuzzle puzzle, int all) {
        for (int most = 1; most <= 5; most++) {
            Check.due(what + ": answers(" + most + ")", puzzle.answers(most), Math.min(most, all));
        }
    }

    private static void dueRules(String what, Gridpuzzle puzzle, int level, int hint, int rules) {
        Check.due(what + ": level()", puzzle.level(), level);
        Check.due(what + ": hint()", puzzle.hint(), hint);
        Check.due(what + ": hintRules()", puzzle.hintRules(), rules);
    }

    private static void withoutOpenCells(int size) {
        Gridpuzzle puzzle = allBarred(size);
        String what = "no open cell of " + size + " rows";
        String before = Boards.state(puzzle);
        Check.due(what + ": open()", puzzle.open(), 0);
        Check.due(what + ": runs()", puzzle.runs(), 0);
        Boards.dueThrown(what + ": setSum(0, 9)", puzzle, () -> puzzle.setSum(0, 9),
                Check.CELL_OR_RUN);
        Boards.dueThrown(what + ": firstOf(0)", puzzle, () -> puzzle.firstOf(0),
                Check.CELL_OR_RUN);
        for (int cell : CELLS[size - 2]) {
            Check.due(what + ": digit(" + cell + ")", puzzle.digit(cell), -1);
            Boards.dueThrown(what + ": give(" + cell + ", 1)", puzzle, () -> puzzle.give(cell, 1),
                    Check.STATE);
            for (int last = 0; last <= 3; last++) {
                Check.due(what + ": candidates(" + cell + ", " + last + ")",
                        puzzle.candidates(cell, last), 0);
            }
        }
        dueAnswers(what, puzzle, 1);
        Check.due(what + ": answersByAll()", puzzle.answersByAll(), 1);
        Check.due(what + ": mend()", puzzle.mend(), -1);
        dueRules(what, puzzle, 0, -1, -1);
        Check.due(what + ": press()", puzzle.press(), 0);
        Check.due(what + ": press() again", puzzle.press(), 0);
        Boards.dueState(what + ", behind all of them", puzzle, before);
    }

    private static void opensFromNone(int size) {
        for (int cell : CELLS[size - 2]) {
            Gridpuzzle one = allBarred(size);
            Check.due("bar(" + cell + ") of all barred", one.bar(cell), false);
            Check.due("open() behind it", one.open(), 1);
            Check.due("digit(" + cell + ") behind it", one.digit(cell), 0);
            Check.due("runs() behind it", one.runs(), 0);
            int both = size == 3 && cell == 5 ? 1 : 2;
            Gridpuzzle two = allBarred(size);
            Check.due("barBoth(" + cell + ") of all barred", two.barBoth(cell),
                    size * size - both);
            Check.due("open() behind it", two.open(), both);
        }
    }

    private static void oneOpenCell() {
        Gridpuzzle puzzle = allBarred(4);
        puzzle.bar(15);
        Check.due("one open cell: open()", puzzle.open(), 1);
        Check.due("one open cell: runs()", puzzle.runs(), 0);
        dueAnswers("one open cell", puzzle, 9);
        Check.due("one open cell: answersByAll()", puzzle.answersByAll(), 9);
        Check.due("one open cell: candidates(15, 3)", puzzle.candidates(15, 3), ALL);
        dueRules("one open cell", puzzle, -1, -1, -1);
        Boards.dueThrown("one open cell: press()", puzzle, puzzle::press, Check.STATE);
        Check.due("one open cell: mend()", puzzle.mend(), 15);
        Check.due("one open cell: digit(15)", puzzle.digit(15), 1);
        Check.due("one open cell: mend() again", puzzle.mend(), -1);
        dueAnswers("one given cell", puzzle, 1);
        Check.due("one given cell: candidates(15, 3)", puzzle.candidates(15, 3), 1 << 1);
        dueRules("one given cell", puzzle, 0, -1, -1);
        Check.due("one given cell: press()", puzzle.press(), 0);
        Check.due("one given cell: digit(15) behind it", puzzle.digit(15), 0);
    }

    /** Open and barred cells by turns: no two open ones side by side. */
    private static void withoutRuns(int size, int lastCell) {
        Gridpuzzle puzzle = Boards.drawn(size);
        int open = 0;
        int firstOpen = size % 2 == 0 ? 1 : 0;
        for (int cell : CELLS[size - 2]) {
            if ((cell / 4 + cell % 4) % 2 == firstOpen) {
                open++;
            } else {
                puzzle.bar(cell);
            }
        }
        // On even boards the last cell of all is barred then, and the one before it open.
        int last = size % 2 == 0 ? lastCell - 1 : lastCell;
        String what = "no runs of " + size + " rows";
        Check.due(what + ": open()", puzzle.open(), open);
        Check.due(what + ": runs()", puzzle.runs(), 0);
        dueAnswers(what, puzzle, 5);
        dueRules(what, puzzle, -1, -1, -1);
        // The first two answers are all 1, and all 1 but for a 2 in the last cell.
        Check.due(what + ": mend()", puzzle.mend(), last);
        Check.due(what + ": digit() behind it", puzzle.digit(last), 1);
        for (int cell : CELLS[size - 2]) {
            if (puzzle.digit(cell) == 0) {
                puzzle.give(cell, 1);
            }
        }
        dueAnswers(what + ", full", puzzle, 1);
        Check.due(what + ", full: answersByAll()", puzzle.answersByAll(), 1);
        dueRules(what + ", full", puzzle, 0, -1, -1);
        Check.due(what + ", full: press()", puzzle.press(), 0);
        Check.due(what + ", full: digit() behind it", puzzle.digit(last), 0);
        Check.due(what + ", full: open() behind it", puzzle.open(), open);
    }

    private static void fullBoard(int size) {
        int[] digits = LAWFUL[size - 2];
        int[] cells = CELLS[size - 2];
        Gridpuzzle puzzle = Boards.drawn(size, digits);
        String what = "full, of " + size + " rows";
        String before = Boards.state(puzzle);
        for (int i = 0; i < cells.length; i++) {
            for (int last = 0; last <= 3; last++) {
                Check.due(what + ": candidates(" + cells[i] + ", " + last + ")",
                        puzzle.candidates(cells[i], last), 1 << digits[i]);
            }
        }
        dueAnswers(what, puzzle, 1);
        Check.due(what + ": answersByAll()", puzzle.answersByAll(), 1);
        Check.due(what + ": mend()", puzzle.mend(), -1);
        dueRules(what, puzzle, 0, -1, -1);
        Boards.dueState(what + ", behind what is asked", puzzle, before);
        // The last cell gets the digit of the one above it.
        Gridpuzzle twice = Boards.drawn(size, digits);
        int last = cells[cells.length - 1];
        twice.give(last, twice.digit(last - 4));
        dueAnswers(what + ", one twice", twice, 0);
        Check.due(what + ", one twice: answersByAll()", twice.answersByAll(), 0);
        Check.due(what + ", one twice: mend()", twice.mend(), -1);
        dueRules(what + ", one twice", twice, -1, -1, -1);
        Boards.dueThrown(what + ", one twice: press()", twice, twice::press, Check.STATE);
        Check.due(what + ": press()", puzzle.press(), 2 * size);
        for (int cell : cells) {
            Check.due(what + ": digit(" + cell + ") behind it", puzzle.digit(cell), 0);
        }
        Boards.dueThrown(what + ": press() again", puzzle, puzzle::press, Check.STATE);
    }

    /** Whichever cell alone has no digit, the board is not filled. */
    private static void fullButOne(int size) {
        int[] cells = CELLS[size - 2];
        for (int i = 0; i < cells.length; i++) {
            int cell = cells[i];
            int digit = LAWFUL[size - 2][i];
            Gridpuzzle puzzle = Boards.drawn(size, LAWFUL[size - 2]);
            Check.due("give(" + cell + ", 0)", puzzle.give(cell, 0), digit);
            Boards.dueThrown("press() without the cell " + cell, puzzle, puzzle::press,
                    Check.STATE);
            Check.due("level() without the cell " + cell, puzzle.level(), -1);
            Check.due("hint() without sums", puzzle.hint(), -1);
            // One sum of it alone, of its row: the rule 2 has but one set for it.
            puzzle.setSum(cell / 4, sumOfRow(size, cell / 4));
            Check.due("level() of the cell " + cell, puzzle.level(), 2);
            Check.due("hint() of the cell " + cell, puzzle.hint(), cell);
            Check.due("hintRules() of the cell " + cell, puzzle.hintRules(), 2);
            Check.due("candidates(" + cell + ", 3)", puzzle.candidates(cell, 3), 1 << digit);
            dueAnswers("the cell " + cell + " alone", puzzle, 1);
            Check.due("answersByAll() of it", puzzle.answersByAll(), 1);
            Check.due("mend() of it", puzzle.mend(), -1);
            puzzle.bar(cell);
            Check.due("press() with the cell " + cell + " barred", puzzle.press(), puzzle.runs());
        }
    }

    private static int sumOfRow(int size, int row) {
        int sum = 0;
        for (int column = 0; column < size; column++) {
            sum += LAWFUL[size - 2][row * size + column];
        }
        return sum;
    }

    /** When a cell is barred or opened, all sums are gone, and the digit of that cell alone. */
    private static void gone(int size) {
        int[] cells = CELLS[size - 2];
        for (int i = 0; i < cells.length; i++) {
            int cell = cells[i];
            Gridpuzzle barred = withAllSums(size);
            barred.bar(cell);
            dueNoSums("bar(" + cell + ")", barred);
            setSums(barred);
            barred.bar(cell);
            dueNoSums("bar(" + cell + ") again", barred);
            Check.due("digit(" + cell + ") behind it", barred.digit(cell), 0);
            for (int other = 0; other < cells.length; other++) {
                if (other != i) {
                    Check.due("digit(" + cells[other] + ") behind it", barred.digit(cells[other]),
                            LAWFUL[size - 2][other]);
                }
            }
            Gridpuzzle both = withAllSums(size);
            both.barBoth(cell);
            dueNoSums("barBoth(" + cell + ")", both);
            setSums(both);
            both.barBoth(cell);
            dueNoSums("barBoth(" + cell + ") again", both);
            Gridpuzzle begun = withAllSums(size);
            begun.bar(cell);
            begun.begin(size);
            Boards.dueState("begin(" + size + ") again", begun, Boards.state(Boards.drawn(size)));
        }
    }

    private static Gridpuzzle withAllSums(int size) {
        Gridpuzzle puzzle = Boards.drawn(size, LAWFUL[size - 2]);
        setSums(puzzle);
        return puzzle;
    }

    private static void setSums(Gridpuzzle puzzle) {
        for (int run = 0; run < puzzle.runs(); run++) {
            Check.due("setSum() of a run without", puzzle.setSum(run, 20 + run), 0);
        }
    }

    private static void dueNoSums(String what, Gridpuzzle puzzle) {
        for (int run = 0; run < puzzle.runs(); run++) {
            Check.due("sumOf(" + run + ") behind " + what, puzzle.sumOf(run), 0);
        }
    }

    /** All lines of four cells: where the run of each begins, and how long it is; 0 for none. */
    private static void linesOfFour() {
        dueLine("....", 0, 4);
        dueLine("...#", 0, 3);
        dueLine("..#.", 0, 2);
        dueLine("..##", 0, 2);
        dueLine(".#..", 2, 2);
        dueLine(".#.#", 0, 0);
        dueLine(".##.", 0, 0);
        dueLine(".###", 0, 0);
        dueLine("#...", 1, 3);
        dueLine("#..#", 1, 2);
        dueLine("#.#.", 0, 0);
        dueLine("#.##", 0, 0);
        dueLine("##..", 2, 2);
        dueLine("##.#", 0, 0);
        dueLine("###.", 0, 0);
        dueLine("####", 0, 0);
    }

    /** The line stands alone, in each row and in each column. */
    private static void dueLine(String line, int place, int length) {
        for (int number = 0; number < 4; number++) {
            Gridpuzzle row = allBarred(4);
            Gridpuzzle column = allBarred(4);
            for (int i = 0; i < 4; i++) {
                if (line.charAt(i) == '.') {
                    row.bar(4 * number + i);
                    column.bar(4 * i + number);
                }
            }
            dueOnlyRun("the row " + number + " of " + line, row, 4 * number + place, length);
            dueOnlyRun("the column " + number + " of " + line, column, 4 * place + number, length);
        }
    }

    private static void dueOnlyRun(String what, Gridpuzzle puzzle, int first, int length) {
        Check.due(what + ": runs()", puzzle.runs(), length == 0 ? 0 : 1);
        if (length != 0) {
            Check.due(what + ": firstOf(0)", puzzle.firstOf(0), first);
            Check.due(what + ": lengthOf(0)", puzzle.lengthOf(0), length);
        }
    }

    /** The numbers 3 and 4 follow each other, but a row ends between them. */
    private static void noRunAroundTheEdge() {
        Gridpuzzle rows = allBarred(4);
        rows.bar(3);
        rows.bar(4);
        Check.due("runs() of the cells 3 and 4", rows.runs(), 0);
        dueAnswers("the cells 3 and 4", rows, 81);
        Check.due("answersByAll() of the cells 3 and 4", rows.answersByAll(), 81);
        rows.give(3, 7);
        rows.give(4, 7);
        Check.due("level() of 7 and 7 in them", rows.level(), 0);
        Check.due("press() of 7 and 7 in them", rows.press(), 0);
        Gridpuzzle columns = allBarred(4);
        columns.bar(12);
        columns.bar(1);
        Check.due("runs() of the cells 12 and 1", columns.runs(), 0);
        Gridpuzzle two = allBarred(4);
        for (int cell : new int[] {2, 3, 4, 5}) {
            two.bar(cell);
        }
        Check.due("runs() of the cells 2 to 5", two.runs(), 2);
        Check.due("firstOf(0) of them", two.firstOf(0), 2);
        Check.due("lengthOf(0) of them", two.lengthOf(0), 2);
        Check.due("firstOf(1) of them", two.firstOf(1), 4);
        Check.due("lengthOf(1) of them", two.lengthOf(1), 2);
    }

    /** The promise 15: up to 4 open cells without a digit, wherever they are. */
    private static void blanksForAll() {
        int[][] orders = {{0, 1, 2, 3, 4, 5}, {15, 14, 13, 12, 11, 10}, {0, 5, 10, 15, 3, 12}};
        for (int[] order : orders) {
            Gridpuzzle puzzle = Boards.drawn(4, LAWFUL[2]);
            Check.due("answersByAll() without blank cells", puzzle.answersByAll(), 1);
            for (int blanks = 1; blanks <= order.length; blanks++) {
                puzzle.give(order[blanks - 1], 0);
                if (blanks <= 4) {
                    Check.due("answersByAll() of " + blanks + " blank cells is more than none",
                            puzzle.answersByAll() > 0, true);
                } else {
                    Boards.dueThrown("answersByAll() of " + blanks + " blank cells", puzzle,
                            puzzle::answersByAll, Check.STATE);
                }
            }
            // Barred cells are not open ones.
            puzzle.bar(order[0]);
            puzzle.bar(order[1]);
            Check.due("answersByAll() of 4 blank cells beside bars", puzzle.answersByAll() > 0,
                    true);
        }
    }

    /** An object is used for at most 512 calls: the last one is as good as the first. */
    private static void lastCall() {
        Gridpuzzle puzzle = new Gridpuzzle();
        for (int call = 1; call < 512; call++) {
            puzzle.give(call % 3, call % 10);
        }
        // The calls 511, 510 and 509 were the last ones that gave digits, to the cells 1, 0 and 2.
        Check.due("the 512th call", puzzle.give(1, 5), 1);
        Gridpuzzle asked = Boards.drawn(3);
        for (int call = 2; call < 512; call++) {
            asked.open();
        }
        Check.due("the 512th call, answers(5)", asked.answers(5), 5);
    }
}
