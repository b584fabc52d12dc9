/** How Gridpuzzle is used: README.md shows this program, and tells behind // what it prints. */
public final class Example {
    public static void main(String[] args) {
        Gridpuzzle puzzle = new Gridpuzzle();       // a board of 3 rows and columns, all open
        System.out.println(puzzle.barBoth(0));      // 2 cells are barred: 0 and, opposite to it, 10
        int[] cells = {1, 2, 4, 5, 6, 8, 9};        // the row r and the column c: 4 * r + c
        int[] digits = {4, 8, 2, 3, 5, 8, 6};
        for (int i = 0; i < cells.length; i++) {
            puzzle.give(cells[i], digits[i]);
        }
        System.out.println(puzzle.press());         // 6 runs have sums, and no cell has a digit
        System.out.println(puzzle.sumOf(1));        // 10 in the middle row: 2 + 3 + 5
        System.out.println(puzzle.answers(5));      // 2 fillings fit, one too many
        System.out.println(puzzle.mend());          // 4 is the cell that got a digit
        System.out.println(puzzle.digit(4));        // 2 is its digit
        System.out.println(puzzle.answers(5));      // 1 is left
        System.out.println(puzzle.level());         // 3: the hardest rule that it needs
        System.out.println(puzzle.hint());          // 8 is a cell that rules find,
        System.out.println(puzzle.hintRules());     // 2 of them: the rules 1 and 2
        int set = puzzle.candidates(8, 2);
        System.out.println(set == 1 << 8);          // true: they leave it the 8 alone
        try {
            puzzle.give(0, 7);
        } catch (IllegalStateException e) {
            System.out.println("barred");           // barred: it takes no digit
        }
    }
}
