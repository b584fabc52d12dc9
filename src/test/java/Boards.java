/** Boards for the tests, and their whole state as a text. */
final class Boards {
    private static final int[] ODD_CELLS = {
        Integer.MIN_VALUE, -16, -5, -4, -1, 16, 17, 20, 21, Integer.MAX_VALUE
    };

    private Boards() {
    }

    /** A board of the size with these digits by rows: 0 for none, NONE for a barred cell. */
    static Gridpuzzle drawn(int size, int... digits) {
        Gridpuzzle puzzle = new Gridpuzzle();
        puzzle.begin(size);
        for (int i = 0; i < digits.length; i++) {
            int cell = 4 * (i / size) + i % size;
            if (digits[i] == Gridpuzzle.NONE) {
                puzzle.bar(cell);
            } else {
                puzzle.give(cell, digits[i]);
            }
        }
        return puzzle;
    }

    /** The same with sums for all runs: 0 for none. */
    static Gridpuzzle withSums(Gridpuzzle puzzle, int... sums) {
        for (int run = 0; run < sums.length; run++) {
            puzzle.setSum(run, sums[run]);
        }
        return puzzle;
    }

    static Gridpuzzle pressed(int size, int... digits) {
        Gridpuzzle puzzle = drawn(size, digits);
        puzzle.press();
        return puzzle;
    }

    /** All that can be asked of a board but answers and rules: digits by cells, then runs. */
    static String state(Gridpuzzle puzzle) {
        StringBuilder told = new StringBuilder();
        for (int cell = 0; cell < 16; cell++) {
            int asked = cell;
            long digit = Check.answerOf(() -> puzzle.digit(asked));
            told.append(digit == Check.CELL_OR_RUN ? "x" : digit == -1 ? "#" : "" + digit);
        }
        told.append(" open ").append(puzzle.open());
        for (int run = 0; run < puzzle.runs(); run++) {
            told.append(", ").append(puzzle.firstOf(run)).append(" by ")
                    .append(puzzle.lengthOf(run)).append(" makes ").append(puzzle.sumOf(run));
        }
        return told.toString();
    }

    static void dueState(String what, Gridpuzzle puzzle, String want) {
        String got = state(puzzle);
        if (!got.equals(want)) {
            System.out.println(what + ": the state is\n  " + got + "\ndue is\n  " + want);
        }
        Check.due(what + ": the state is as due", got.equals(want), true);
    }

    /** The call throws the exception and leaves the state as it was. */
    static void dueThrown(String what, Gridpuzzle puzzle, Check.Call call, long exception) {
        String before = state(puzzle);
        Check.due(what, call, exception);
        dueState(what + " changes nothing", puzzle, before);
    }

    /** A call that takes a cell. */
    interface OfCell {
        long answer(Gridpuzzle puzzle, int cell);
    }

    /** The call throws for all numbers that are no cells of the boards of the three sizes. */
    static void dueThrownForNoCell(String what, OfCell call) {
        for (int size = 2; size <= 4; size++) {
            Gridpuzzle puzzle = drawn(size, 1, 2);
            puzzle.setSum(0, 9);
            for (int cell = 0; cell < 16; cell++) {
                if (cell / 4 >= size || cell % 4 >= size) {
                    dueThrownForCell(what, puzzle, call, cell);
                }
            }
            for (int cell : ODD_CELLS) {
                dueThrownForCell(what, puzzle, call, cell);
            }
        }
    }

    private static void dueThrownForCell(String what, Gridpuzzle puzzle, OfCell call, int cell) {
        dueThrown(what + " of the cell " + cell, puzzle, () -> call.answer(puzzle, cell),
                Check.CELL_OR_RUN);
    }

    /** The call throws for numbers that are no runs, on boards with six runs and with none. */
    static void dueThrownForNoRun(String what, OfCell call) {
        Gridpuzzle puzzle = drawn(3, 1, 2);
        puzzle.setSum(5, 9);
        Gridpuzzle barred = drawn(2, -1, 0, 0, -1);
        for (int run : new int[] {Integer.MIN_VALUE, -1, 6, 7, 8, 16, Integer.MAX_VALUE}) {
            dueThrown(what + " of the run " + run, puzzle, () -> call.answer(puzzle, run),
                    Check.CELL_OR_RUN);
        }
        for (int run : new int[] {-1, 0, 1, 7, 8}) {
            dueThrown(what + " of the run " + run + " of none", barred,
                    () -> call.answer(barred, run), Check.CELL_OR_RUN);
        }
    }
}
