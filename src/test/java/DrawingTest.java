/** The promises 1 to 7: a new object, begin, bar, barBoth, give, setSum, press. */
public final class DrawingTest {
    private static final String NEW_BOARD = "000x000x000xxxxx open 9, 0 by 3 makes 0, 4 by 3 makes 0,"
            + " 8 by 3 makes 0, 0 by 3 makes 0, 1 by 3 makes 0, 2 by 3 makes 0";
    private static final String BOARD_OF_TWO = "00xx00xxxxxxxxxx open 4, 0 by 2 makes 0,"
            + " 4 by 2 makes 0, 0 by 2 makes 0, 1 by 2 makes 0";
    private static final String BOARD_OF_FOUR = "0000000000000000 open 16, 0 by 4 makes 0,"
            + " 4 by 4 makes 0, 8 by 4 makes 0, 12 by 4 makes 0, 0 by 4 makes 0, 1 by 4 makes 0,"
            + " 2 by 4 makes 0, 3 by 4 makes 0";

    public static void main(String[] args) {
        newObject();
        begin();
        beginBehindEachSize();
        bar();
        barBoth();
        give();
        setSum();
        press();
        pressInPlaceOfSums();
        pressThrows();
        Check.end("DrawingTest");
    }

    private static void newObject() {
        Boards.dueState("a new object", new Gridpuzzle(), NEW_BOARD);
        Gridpuzzle one = new Gridpuzzle();
        Gridpuzzle other = new Gridpuzzle();
        one.give(0, 7);
        one.bar(10);
        Boards.dueState("another new object", other, NEW_BOARD);
    }

    private static void begin() {
        Gridpuzzle puzzle = Boards.drawn(3, 1, 2, 3, -1);
        puzzle.setSum(0, 6);
        puzzle.begin(4);
        Boards.dueState("begin(4)", puzzle, BOARD_OF_FOUR);
        puzzle.bar(15);
        puzzle.bar(0);
        puzzle.give(5, 9);
        puzzle.setSum(1, 45);
        puzzle.begin(2);
        Boards.dueState("begin(2)", puzzle, BOARD_OF_TWO);
        puzzle.give(5, 9);
        puzzle.setSum(3, 10);
        puzzle.begin(3);
        Boards.dueState("begin(3)", puzzle, NEW_BOARD);
        puzzle.setSum(3, 10);
        puzzle.begin(4);
        Boards.dueState("begin(4) again", puzzle, BOARD_OF_FOUR);
        Gridpuzzle kept = Boards.withSums(Boards.drawn(3, 1, 2, 3, -1), 6);
        for (int size : new int[] {Integer.MIN_VALUE, -2, -1, 0, 1, 5, 6, Integer.MAX_VALUE}) {
            Boards.dueThrown("begin(" + size + ")", kept, () -> {
                kept.begin(size);
                return 0;
            }, Check.ARGUMENT);
        }
    }

    /** From each size to each, and on to a third: nothing of the boards before is left. */
    private static void beginBehindEachSize() {
        String[] begun = {BOARD_OF_TWO, NEW_BOARD, BOARD_OF_FOUR};
        for (int sizes = 0; sizes < 27; sizes++) {
            Gridpuzzle puzzle = new Gridpuzzle();
            String of = "";
            for (int size : new int[] {sizes / 9 + 2, sizes / 3 % 3 + 2, sizes % 3 + 2}) {
                puzzle.begin(size);
                of += "begin(" + size + ") ";
                Boards.dueState(of, puzzle, begun[size - 2]);
                puzzle.barBoth(1);
                puzzle.give(0, size);
                puzzle.give(4 * size - 4 + size - 1, 9);
                for (int run = 0; run < puzzle.runs(); run++) {
                    puzzle.setSum(run, 20 + run);
                }
            }
        }
    }

    private static void bar() {
        Gridpuzzle puzzle = Boards.withSums(Boards.drawn(3, 1, 2, 3, 4, 5, 6), 6, 15, 0, 0, 0, 9);
        Check.due("bar(5) of an open cell", puzzle.bar(5), true);
        Boards.dueState("behind bar(5)", puzzle, "123x4#6x000xxxxx open 8, 0 by 3 makes 0,"
                + " 8 by 3 makes 0, 0 by 3 makes 0, 2 by 3 makes 0");
        puzzle.setSum(0, 6);
        puzzle.setSum(3, 20);
        Check.due("bar(5) of a barred cell", puzzle.bar(5), false);
        Boards.dueState("behind bar(5) again", puzzle, "123x406x000xxxxx open 9, 0 by 3 makes 0,"
                + " 4 by 3 makes 0, 8 by 3 makes 0, 0 by 3 makes 0, 1 by 3 makes 0,"
                + " 2 by 3 makes 0");
        puzzle.setSum(2, 20);
        Check.due("bar(0)", puzzle.bar(0), true);
        Check.due("bar(10)", puzzle.bar(10), true);
        Boards.dueState("behind bar(0) and bar(10)", puzzle, "#23x406x00#xxxxx open 7,"
                + " 1 by 2 makes 0, 4 by 3 makes 0, 8 by 2 makes 0, 4 by 2 makes 0,"
                + " 1 by 3 makes 0, 2 by 2 makes 0");
        Boards.dueThrownForNoCell("bar", (x, cell) -> x.bar(cell) ? 1 : 0);
    }

    private static void barBoth() {
        Gridpuzzle two = Boards.drawn(2, 1, 2, 3, 4);
        Check.due("barBoth(1) of 2 rows", two.barBoth(1), 2);
        Boards.dueState("behind barBoth(1)", two, "1#xx#4xxxxxxxxxx open 2");
        Check.due("barBoth(5) of 2 rows", two.barBoth(5), 4);
        Check.due("barBoth(4) of 2 rows", two.barBoth(4), 2);
        Boards.dueState("behind barBoth(4)", two, "#0xx0#xxxxxxxxxx open 2");
        Gridpuzzle three = Boards.drawn(3, 1, 2, 3, 4, 5, 6, 7, 8, 9);
        Check.due("barBoth(0) of 3 rows", three.barBoth(0), 2);
        Boards.dueState("behind barBoth(0)", three, "#23x456x78#xxxxx open 7, 1 by 2 makes 0,"
                + " 4 by 3 makes 0, 8 by 2 makes 0, 4 by 2 makes 0, 1 by 3 makes 0,"
                + " 2 by 2 makes 0");
        three.setSum(1, 15);
        Check.due("barBoth(5), the middle", three.barBoth(5), 3);
        Boards.dueState("behind barBoth(5)", three, "#23x4#6x78#xxxxx open 6, 1 by 2 makes 0,"
                + " 8 by 2 makes 0, 4 by 2 makes 0, 2 by 2 makes 0");
        three.setSum(1, 15);
        Check.due("barBoth(5), the middle again", three.barBoth(5), 2);
        Check.due("sumOf(1) behind it", three.sumOf(1), 0);
        Check.due("barBoth(6) of 3 rows", three.barBoth(6), 4);
        Check.due("bar(8)", three.bar(8), true);
        Check.due("barBoth(8), barred, and 2, open", three.barBoth(8), 5);
        Boards.dueState("behind barBoth(8)", three, "#2#x#0#x08#xxxxx open 4, 8 by 2 makes 0,"
                + " 1 by 3 makes 0");
        oppositesOfFour();
        Boards.dueThrownForNoCell("barBoth", Gridpuzzle::barBoth);
    }

    private static void oppositesOfFour() {
        for (int cell = 0; cell < 16; cell++) {
            Gridpuzzle four = new Gridpuzzle();
            four.begin(4);
            Check.due("barBoth(" + cell + ") of 4 rows", four.barBoth(cell), 2);
            Check.due("digit(" + cell + ") behind it", four.digit(cell), -1);
            Check.due("digit(" + (15 - cell) + ") behind it", four.digit(15 - cell), -1);
        }
    }

    private static void give() {
        Gridpuzzle puzzle = Boards.withSums(Boards.drawn(3, 0, 0, 0, -1), 6, 15, 0, 0, 9);
        Check.due("give(0, 1)", puzzle.give(0, 1), 0);
        Check.due("give(0, 9)", puzzle.give(0, 9), 1);
        Check.due("give(0, 9) again", puzzle.give(0, 9), 9);
        Check.due("give(10, 9), as another has", puzzle.give(10, 9), 0);
        Check.due("give(1, 9), twice in a run", puzzle.give(1, 9), 0);
        Check.due("give(2, 0) of none", puzzle.give(2, 0), 0);
        Boards.dueState("behind give", puzzle, "990x#00x009xxxxx open 8, 0 by 3 makes 6,"
                + " 5 by 2 makes 15, 8 by 3 makes 0, 1 by 3 makes 0, 2 by 3 makes 9");
        Check.due("give(0, 0)", puzzle.give(0, 0), 9);
        Check.due("digit(0) behind it", puzzle.digit(0), 0);
        for (int digit : new int[] {Integer.MIN_VALUE, -1, 10, 11, Integer.MAX_VALUE}) {
            Boards.dueThrown("give(1, " + digit + ")", puzzle, () -> puzzle.give(1, digit),
                    Check.ARGUMENT);
            Boards.dueThrown("give(4, " + digit + "), barred", puzzle,
                    () -> puzzle.give(4, digit), Check.ARGUMENT);
            Boards.dueThrown("give(3, " + digit + "), no cell", puzzle,
                    () -> puzzle.give(3, digit), Check.CELL_OR_RUN);
        }
        for (int digit = 0; digit <= 9; digit++) {
            int given = digit;
            Boards.dueThrown("give(4, " + digit + "), barred", puzzle,
                    () -> puzzle.give(4, given), Check.STATE);
        }
        Boards.dueThrownForNoCell("give", (x, cell) -> x.give(cell, 5));
    }

    private static void setSum() {
        Gridpuzzle puzzle = Boards.drawn(3, 1, 2, 3, -1);
        Check.due("setSum(0, 1)", puzzle.setSum(0, 1), 0);
        Check.due("setSum(0, 45)", puzzle.setSum(0, 45), 1);
        Check.due("setSum(4, 7)", puzzle.setSum(4, 7), 0);
        Check.due("setSum(1, 0) of none", puzzle.setSum(1, 0), 0);
        Boards.dueState("behind setSum", puzzle, "123x#00x000xxxxx open 8, 0 by 3 makes 45,"
                + " 5 by 2 makes 0, 8 by 3 makes 0, 1 by 3 makes 0, 2 by 3 makes 7");
        Check.due("setSum(0, 0)", puzzle.setSum(0, 0), 45);
        Check.due("sumOf(0) behind it", puzzle.sumOf(0), 0);
        for (int sum : new int[] {Integer.MIN_VALUE, -1, 46, 47, Integer.MAX_VALUE}) {
            Boards.dueThrown("setSum(4, " + sum + ")", puzzle, () -> puzzle.setSum(4, sum),
                    Check.ARGUMENT);
            Boards.dueThrown("setSum(5, " + sum + "), no run", puzzle,
                    () -> puzzle.setSum(5, sum), Check.CELL_OR_RUN);
        }
        Boards.dueThrownForNoRun("setSum", (x, run) -> x.setSum(run, 5));
    }

    private static void press() {
        Gridpuzzle puzzle = Boards.withSums(Boards.drawn(3, 1, 2, 3, 4, 5, 6, 7, 8, 9), 3, 0, 45);
        Check.due("press()", puzzle.press(), 6);
        Boards.dueState("behind press()", puzzle, "000x000x000xxxxx open 9, 0 by 3 makes 6,"
                + " 4 by 3 makes 15, 8 by 3 makes 24, 0 by 3 makes 12, 1 by 3 makes 15,"
                + " 2 by 3 makes 18");
        // The cells 0, 2 and 10 have the same digit in one row and column, with bars between.
        Gridpuzzle apart = Boards.drawn(3, 5, -1, 5, 6, -1, -1, -1, 3, 5);
        Check.due("press() of runs apart", apart.press(), 2);
        Boards.dueState("behind press() of runs apart", apart, "0#0x0##x#00xxxxx open 5,"
                + " 9 by 2 makes 8, 0 by 2 makes 11");
        Gridpuzzle lone = Boards.drawn(2, 4, -1, -1, 4);
        Check.due("press() of lone cells", lone.press(), 0);
        Boards.dueState("behind press() of lone cells", lone, "0#xx#0xxxxxxxxxx open 2");
        Gridpuzzle none = Boards.drawn(2, -1, -1, -1, -1);
        Check.due("press() of no open cell", none.press(), 0);
        Gridpuzzle four = Boards.pressed(4, 9, 8, 7, 6, 8, 9, 6, 7, 1, 2, 3, 4, 2, 1, 4, 3);
        Boards.dueState("behind press() of 4 rows", four, "0000000000000000 open 16,"
                + " 0 by 4 makes 30, 4 by 4 makes 30, 8 by 4 makes 10, 12 by 4 makes 10,"
                + " 0 by 4 makes 20, 1 by 4 makes 20, 2 by 4 makes 20, 3 by 4 makes 20");
    }

    /** Whatever sum a run had before, right or wrong, it gets that of its digits. */
    private static void pressInPlaceOfSums() {
        for (int run = 0; run < 4; run++) {
            for (int sum = 0; sum <= 45; sum++) {
                Gridpuzzle puzzle = Boards.drawn(2, 1, 2, 3, 4);
                puzzle.setSum(run, sum);
                Check.due("press() where the run " + run + " makes " + sum, puzzle.press(), 4);
                Boards.dueState("behind it", puzzle, "00xx00xxxxxxxxxx open 4, 0 by 2 makes 3,"
                        + " 4 by 2 makes 7, 0 by 2 makes 4, 1 by 2 makes 6");
            }
        }
    }

    private static void pressThrows() {
        Gridpuzzle blank = Boards.withSums(Boards.drawn(2, 1, 2, 2, 0), 7);
        Boards.dueThrown("press() of a cell without a digit", blank, blank::press, Check.STATE);
        Gridpuzzle lone = Boards.drawn(2, 0, -1, -1, 4);
        Boards.dueThrown("press() of a lone one without", lone, lone::press, Check.STATE);
        Gridpuzzle row = Boards.withSums(Boards.drawn(2, 1, 2, 3, 3), 7);
        Boards.dueThrown("press() of a digit twice in a row", row, row::press, Check.STATE);
        Gridpuzzle first = Boards.withSums(Boards.drawn(2, 3, 3, 1, 2), 7);
        Boards.dueThrown("press() of a digit twice in the first run", first, first::press,
                Check.STATE);
        Gridpuzzle column = Boards.drawn(3, 1, 2, 3, 4, 5, 6, 7, 8, 3);
        Boards.dueThrown("press() of a digit twice in a column", column, column::press,
                Check.STATE);
        Gridpuzzle fresh = new Gridpuzzle();
        Boards.dueThrown("press() of a new board", fresh, fresh::press, Check.STATE);
    }
}
