/** The promises 8 to 13: open, runs, firstOf, lengthOf, sumOf, digit. */
public final class BoardTest {
    public static void main(String[] args) {
        open();
        runsOfBarredBoard();
        runsOfLoneCells();
        runsBesideBars();
        sumOf();
        digit();
        Boards.dueThrownForNoRun("firstOf", Gridpuzzle::firstOf);
        Boards.dueThrownForNoRun("lengthOf", Gridpuzzle::lengthOf);
        Boards.dueThrownForNoRun("sumOf", Gridpuzzle::sumOf);
        Boards.dueThrownForNoCell("digit", Gridpuzzle::digit);
        Check.end("BoardTest");
    }

    private static void open() {
        Gridpuzzle puzzle = new Gridpuzzle();
        Check.due("open() of a new board", puzzle.open(), 9);
        for (int size = 2; size <= 4; size++) {
            puzzle.begin(size);
            Check.due("open() behind begin(" + size + ")", puzzle.open(), size * size);
        }
        puzzle.give(0, 4);
        puzzle.setSum(0, 10);
        Check.due("open() with a digit", puzzle.open(), 16);
        puzzle.bar(0);
        puzzle.bar(15);
        Check.due("open() with two bars", puzzle.open(), 14);
        puzzle.bar(0);
        Check.due("open() with one bar", puzzle.open(), 15);
        Gridpuzzle none = Boards.drawn(2, -1, -1, -1, -1);
        Check.due("open() of all barred", none.open(), 0);
        Check.due("runs() of all barred", none.runs(), 0);
    }

    private static void dueRun(Gridpuzzle puzzle, int run, int first, int length) {
        Check.due("firstOf(" + run + ")", puzzle.firstOf(run), first);
        Check.due("lengthOf(" + run + ")", puzzle.lengthOf(run), length);
        Check.due("sumOf(" + run + ")", puzzle.sumOf(run), 0);
    }

    private static void runsOfBarredBoard() {
        // . . # .
        // . . . .
        // # . . .
        // . . . .
        Gridpuzzle puzzle = Boards.drawn(4, 0, 0, -1, 0, 0, 0, 0, 0, -1);
        Check.due("runs()", puzzle.runs(), 8);
        dueRun(puzzle, 0, 0, 2);
        dueRun(puzzle, 1, 4, 4);
        dueRun(puzzle, 2, 9, 3);
        dueRun(puzzle, 3, 12, 4);
        dueRun(puzzle, 4, 0, 2);
        dueRun(puzzle, 5, 1, 4);
        dueRun(puzzle, 6, 6, 3);
        dueRun(puzzle, 7, 3, 4);
        Check.due("firstOf(8)", () -> puzzle.firstOf(8), Check.CELL_OR_RUN);
    }

    private static void runsOfLoneCells() {
        // . # .
        // # . #
        // . # .
        Gridpuzzle board = Boards.drawn(3, 0, -1, 0, -1, 0, -1, 0, -1, 0);
        Check.due("runs() of lone cells", board.runs(), 0);
        Check.due("open() of lone cells", board.open(), 5);
        board.bar(1);
        Check.due("runs() with the cell 1 open", board.runs(), 2);
        dueRun(board, 0, 0, 3);
        dueRun(board, 1, 1, 2);
    }

    private static void runsBesideBars() {
        // # . . #
        // . # . .
        // . . # .
        // . . . #
        Gridpuzzle board = Boards.drawn(4, -1, 0, 0, -1, 0, -1, 0, 0, 0, 0, -1, 0, 0, 0, 0, -1);
        Check.due("runs() beside bars", board.runs(), 8);
        dueRun(board, 0, 1, 2);
        dueRun(board, 1, 6, 2);
        dueRun(board, 2, 8, 2);
        dueRun(board, 3, 12, 3);
        dueRun(board, 4, 4, 3);
        dueRun(board, 5, 9, 2);
        dueRun(board, 6, 2, 2);
        dueRun(board, 7, 7, 2);
    }

    private static void sumOf() {
        Gridpuzzle puzzle = new Gridpuzzle();
        for (int run = 0; run < 6; run++) {
            puzzle.setSum(run, 10 + run);
        }
        for (int run = 0; run < 6; run++) {
            Check.due("sumOf(" + run + ")", puzzle.sumOf(run), 10 + run);
        }
        puzzle.give(0, 3);
        puzzle.setSum(2, 0);
        Check.due("sumOf(2) of none", puzzle.sumOf(2), 0);
        Check.due("sumOf(3) beside it", puzzle.sumOf(3), 13);
        puzzle.bar(10);
        Check.due("sumOf(3) behind bar(10)", puzzle.sumOf(3), 0);
    }

    private static void digit() {
        Gridpuzzle puzzle = Boards.drawn(3, 1, -1, 9, 0, 5);
        Check.due("digit(0)", puzzle.digit(0), 1);
        Check.due("digit(1), barred", puzzle.digit(1), -1);
        Check.due("digit(2)", puzzle.digit(2), 9);
        Check.due("digit(4), none", puzzle.digit(4), 0);
        Check.due("digit(5)", puzzle.digit(5), 5);
        Check.due("digit(10), none", puzzle.digit(10), 0);
    }
}
