/**
 * The least and the greatest argument that each call takes, and the first ones beyond them: of
 * each argument all numbers around its range are tried, and some far away.
 */
public final class ArgumentEdgesTest {
    // Some of these have the last bits of a number that is taken, or come to one by a wrap-around.
    private static final int[] FAR = {
        Integer.MIN_VALUE, Integer.MIN_VALUE + 1, Integer.MIN_VALUE + 5, -(1 << 30), -256, 256,
        1 << 16, 1 << 30, (1 << 30) + 1, Integer.MAX_VALUE - 1, Integer.MAX_VALUE
    };
    private static final String[] CELLS = {
        " 0 1 4 5 ", " 0 1 2 4 5 6 8 9 10 ", " 0 1 2 3 4 5 6 7 8 9 10 11 12 13 14 15 "
    };
    // The cell that lies opposite, in the order of the cells.
    private static final int[][] OPPOSITES = {
        {5, 4, 1, 0}, {10, 9, 8, 6, 5, 4, 2, 1, 0},
        {15, 14, 13, 12, 11, 10, 9, 8, 7, 6, 5, 4, 3, 2, 1, 0}
    };
    private static final int ALL = 0x3FE;

    /** What is looked at for each number. */
    private interface OfNumber {
        void look(int number);
    }

    public static void main(String[] args) {
        aroundRange(-4, 9, ArgumentEdgesTest::size);
        for (int size = 2; size <= 4; size++) {
            int taken = size;
            aroundRange(-20, 40, number -> cell(taken, number));
            opposites(size);
        }
        aroundRange(-12, 24, ArgumentEdgesTest::digitGiven);
        aroundRange(-4, 50, ArgumentEdgesTest::sum);
        runs();
        aroundRange(-7, 12, ArgumentEdgesTest::most);
        aroundRange(-6, 10, ArgumentEdgesTest::last);
        firstNamed();
        Check.end("ArgumentEdgesTest");
    }

    private static void aroundRange(int from, int to, OfNumber each) {
        for (int number = from; number <= to; number++) {
            each.look(number);
        }
        for (int number : FAR) {
            each.look(number);
        }
    }

    /** The promise 2: 2 to 4. */
    private static void size(int number) {
        Gridpuzzle puzzle = Boards.withSums(Boards.drawn(3, 1, 2, 3, -1), 6);
        if (number == 2 || number == 3 || number == 4) {
            puzzle.begin(number);
            Check.due("open() behind begin(" + number + ")", puzzle.open(), number * number);
            Check.due("runs() behind begin(" + number + ")", puzzle.runs(), 2 * number);
        } else {
            Boards.dueThrown("begin(" + number + ")", puzzle, () -> {
                puzzle.begin(number);
                return 0;
            }, Check.ARGUMENT);
        }
    }

    /** The promises 3, 4, 5, 13 and 18: the number of a cell of the board. */
    private static void cell(int size, int number) {
        Gridpuzzle puzzle = Boards.drawn(size);
        String of = "(" + number + ") of " + size + " rows";
        if (CELLS[size - 2].contains(" " + number + " ")) {
            Check.due("digit" + of, puzzle.digit(number), 0);
            for (int last = 0; last <= 3; last++) {
                Check.due("candidates" + of, puzzle.candidates(number, last), ALL);
            }
            Check.due("give" + of, puzzle.give(number, 9), 0);
            Check.due("digit" + of + " behind give", puzzle.digit(number), 9);
            Check.due("bar" + of, puzzle.bar(number), true);
            Check.due("digit" + of + " behind bar", puzzle.digit(number), -1);
            Check.due("open() behind bar" + of, puzzle.open(), size * size - 1);
            Check.due("bar" + of + " again", puzzle.bar(number), false);
            Check.due("digit" + of + " behind bar again", puzzle.digit(number), 0);
            Check.due("open() behind bar" + of + " again", puzzle.open(), size * size);
        } else {
            puzzle.setSum(0, 9);
            dueNoCell("digit" + of, puzzle, () -> puzzle.digit(number));
            for (int last = 0; last <= 3; last++) {
                int asked = last;
                dueNoCell("candidates" + of, puzzle, () -> puzzle.candidates(number, asked));
            }
            dueNoCell("give" + of, puzzle, () -> puzzle.give(number, 9));
            dueNoCell("give" + of + " of none", puzzle, () -> puzzle.give(number, 0));
            dueNoCell("bar" + of, puzzle, () -> puzzle.bar(number) ? 1 : 0);
            dueNoCell("barBoth" + of, puzzle, () -> puzzle.barBoth(number));
        }
    }

    private static void dueNoCell(String what, Gridpuzzle puzzle, Check.Call call) {
        Boards.dueThrown(what, puzzle, call, Check.CELL_OR_RUN);
    }

    /** The promise 4: the cell that lies opposite, and the one in the middle once. */
    private static void opposites(int size) {
        String[] cells = CELLS[size - 2].trim().split(" ");
        for (int i = 0; i < cells.length; i++) {
            int cell = Integer.parseInt(cells[i]);
            int opposite = OPPOSITES[size - 2][i];
            int both = cell == opposite ? 1 : 2;
            String of = "barBoth(" + cell + ") of " + size + " rows";
            Gridpuzzle puzzle = Boards.drawn(size);
            Check.due(of, puzzle.barBoth(cell), both);
            Check.due("digit(" + cell + ") behind " + of, puzzle.digit(cell), -1);
            Check.due("digit(" + opposite + ") behind " + of, puzzle.digit(opposite), -1);
            Check.due("open() behind " + of, puzzle.open(), size * size - both);
            Check.due(of + ", barred", puzzle.barBoth(opposite), 0);
            Check.due("open() behind " + of + ", barred", puzzle.open(), size * size);
            // Each for itself: the one is opened where the other is barred.
            Check.due("bar(" + opposite + ")", puzzle.bar(opposite), true);
            Check.due(of + ", one barred", puzzle.barBoth(cell), both - 1);
            Check.due("digit(" + opposite + ") behind it", puzzle.digit(opposite), 0);
        }
    }

    /** The promise 5: 1 to 9, or 0 for none. */
    private static void digitGiven(int number) {
        Gridpuzzle puzzle = Boards.drawn(3, 4, 0, 0, -1);
        if (number >= 0 && number <= 9) {
            Check.due("give(0, " + number + ")", puzzle.give(0, number), 4);
            Check.due("digit(0) behind it", puzzle.digit(0), number);
            Check.due("give(10, " + number + ")", puzzle.give(10, number), 0);
            Check.due("give(10, 0) behind it", puzzle.give(10, 0), number);
        } else {
            Boards.dueThrown("give(0, " + number + ")", puzzle, () -> puzzle.give(0, number),
                    Check.ARGUMENT);
        }
    }

    /** The promise 6: 1 to 45, or 0 for none. */
    private static void sum(int number) {
        for (int run : new int[] {0, 7}) {
            Gridpuzzle puzzle = Boards.drawn(4);
            puzzle.setSum(run, 30);
            String of = "setSum(" + run + ", " + number + ")";
            if (number >= 0 && number <= 45) {
                Check.due(of, puzzle.setSum(run, number), 30);
                Check.due("sumOf(" + run + ") behind " + of, puzzle.sumOf(run), number);
                Check.due(of + " again", puzzle.setSum(run, number), number);
            } else {
                Boards.dueThrown(of, puzzle, () -> puzzle.setSum(run, number), Check.ARGUMENT);
            }
        }
    }

    /** The promises 6, 10, 11 and 12: the number of a run, on boards with none to eight. */
    private static void runs() {
        runsOf(0, Boards.drawn(2, -1, -1, -1, -1));
        runsOf(0, Boards.drawn(2, 0, -1, -1, 0));
        runsOf(1, Boards.drawn(2, 0, 0, -1, -1));
        runsOf(1, Boards.drawn(2, -1, 0, -1, 0));
        runsOf(2, Boards.drawn(2, 0, 0, 0, -1));
        runsOf(3, Boards.drawn(3, 0, 0, 0, 0, -1, 0, 0, -1, -1));
        runsOf(4, Boards.drawn(2));
        runsOf(6, Boards.drawn(3));
        runsOf(7, Boards.drawn(4, 0, -1, 0, -1));
        runsOf(8, Boards.drawn(4));
    }

    private static void runsOf(int count, Gridpuzzle puzzle) {
        Check.due("runs() of " + count, puzzle.runs(), count);
        aroundRange(-3, 18, number -> run(count, puzzle, number));
    }

    private static void run(int count, Gridpuzzle puzzle, int number) {
        String of = "(" + number + ") of " + count + " runs";
        if (number >= 0 && number < count) {
            Check.due("setSum" + of, puzzle.setSum(number, 20 + number), 0);
            Check.due("sumOf" + of, puzzle.sumOf(number), 20 + number);
            int length = puzzle.lengthOf(number);
            Check.due("lengthOf" + of + " is 2 to 4", length >= 2 && length <= 4, true);
            Check.due("digit(firstOf" + of + ")", puzzle.digit(puzzle.firstOf(number)), 0);
        } else {
            dueNoRun("setSum" + of, puzzle, () -> puzzle.setSum(number, 20));
            dueNoRun("setSum" + of + " of none", puzzle, () -> puzzle.setSum(number, 0));
            dueNoRun("sumOf" + of, puzzle, () -> puzzle.sumOf(number));
            dueNoRun("lengthOf" + of, puzzle, () -> puzzle.lengthOf(number));
            dueNoRun("firstOf" + of, puzzle, () -> puzzle.firstOf(number));
        }
    }

    private static void dueNoRun(String what, Gridpuzzle puzzle, Check.Call call) {
        Boards.dueThrown(what, puzzle, call, Check.CELL_OR_RUN);
    }

    /** The promise 14: 1 to 5. */
    private static void most(int number) {
        Gridpuzzle puzzle = new Gridpuzzle();
        if (number >= 1 && number <= 5) {
            Check.due("answers(" + number + ")", puzzle.answers(number), number);
        } else {
            Boards.dueThrown("answers(" + number + ")", puzzle, () -> puzzle.answers(number),
                    Check.ARGUMENT);
        }
    }

    /** The promise 18: 0 to 3. */
    private static void last(int number) {
        // The rule 1 takes the 9 from the cell 0, the rule 2 the 5, which is in no set of two that
        // makes 10, and the rule 3 the 2, for the cell 1 has no 8.
        Gridpuzzle puzzle = Boards.withSums(Boards.drawn(2, 0, 0, 9, 8), 10);
        int[] wanted = {ALL, ALL & ~(1 << 9), ALL & ~(1 << 9 | 1 << 5),
            ALL & ~(1 << 9 | 1 << 5 | 1 << 2)};
        if (number >= 0 && number <= 3) {
            Check.due("candidates(0, " + number + ")", puzzle.candidates(0, number),
                    wanted[number]);
        } else {
            Boards.dueThrown("candidates(0, " + number + ")", puzzle,
                    () -> puzzle.candidates(0, number), Check.ARGUMENT);
        }
    }

    /** If several exceptions apply, the one that the throws clause names first is thrown. */
    private static void firstNamed() {
        Gridpuzzle puzzle = Boards.withSums(Boards.drawn(3, 1, 0, 0, -1), 6);
        for (int number : new int[] {Integer.MIN_VALUE, -1, 3, 7, 11, 12, 16, Integer.MAX_VALUE}) {
            for (int wrong : new int[] {Integer.MIN_VALUE, -1, 46, Integer.MAX_VALUE}) {
                String of = "(" + number + ", " + wrong + "), both wrong";
                dueNoCell("give" + of, puzzle, () -> puzzle.give(number, wrong));
                dueNoCell("candidates" + of, puzzle, () -> puzzle.candidates(number, wrong));
                // The board has five runs, so that the run 3 is one of them.
                int run = number == 3 ? 5 : number;
                dueNoRun("setSum(" + run + ", " + wrong + "), both wrong", puzzle,
                        () -> puzzle.setSum(run, wrong));
            }
        }
        for (int wrong : new int[] {Integer.MIN_VALUE, -1, 10, Integer.MAX_VALUE}) {
            Boards.dueThrown("give(4, " + wrong + "), barred too", puzzle,
                    () -> puzzle.give(4, wrong), Check.ARGUMENT);
            Boards.dueThrown("candidates(4, " + wrong + "), barred too", puzzle,
                    () -> puzzle.candidates(4, wrong), Check.ARGUMENT);
        }
        for (int digit = 0; digit <= 9; digit++) {
            int given = digit;
            Boards.dueThrown("give(4, " + digit + "), barred", puzzle,
                    () -> puzzle.give(4, given), Check.STATE);
        }
    }
}
