/** The promises 17 to 20: level, candidates, hint, hintRules. */
public final class RulesTest {
    private static final int ALL = 0x3FE;

    public static void main(String[] args) {
        noRules();
        ruleOne();
        ruleOneInOrder();
        ruleTwo();
        ruleTwoBeginsAgain();
        ruleThree();
        endsAtAnEmptyCell();
        level();
        hints();
        candidatesThrows();
        Check.end("RulesTest");
    }

    private static int set(int... digits) {
        int bits = 0;
        for (int digit : digits) {
            bits |= 1 << digit;
        }
        return bits;
    }

    /** The candidates of all open cells by the first rules, in the order of the cells. */
    private static void dueSets(String what, Gridpuzzle puzzle, int last, int... sets) {
        String before = Boards.state(puzzle);
        int next = 0;
        for (int cell = 0; cell < 16; cell++) {
            int asked = cell;
            long digit = Check.answerOf(() -> puzzle.digit(asked));
            if (digit == Check.CELL_OR_RUN) {
                continue;
            }
            int due = digit == -1 ? 0 : sets[next++];
            Check.due(what + ": candidates(" + cell + ", " + last + ")",
                    puzzle.candidates(cell, last), due);
        }
        Check.due(what + ": all cells are told", next, sets.length);
        Boards.dueState(what + ": candidates() changes nothing", puzzle, before);
    }

    private static void dueRules(String what, Gridpuzzle puzzle, int level, int hint, int rules) {
        String before = Boards.state(puzzle);
        Check.due(what + ": level()", puzzle.level(), level);
        Check.due(what + ": hint()", puzzle.hint(), hint);
        Check.due(what + ": hintRules()", puzzle.hintRules(), rules);
        Boards.dueState(what + ": the rules change nothing", puzzle, before);
    }

    private static void noRules() {
        Gridpuzzle puzzle = Boards.withSums(Boards.drawn(2, 9, 9, -1, 0), 3);
        dueSets("no rules", puzzle, 0, set(9), set(9), ALL);
        dueSets("no rules of an open board", Boards.drawn(2), 0, ALL, ALL, ALL, ALL);
    }

    private static void ruleOne() {
        Gridpuzzle puzzle = Boards.drawn(2, 1, 0, 0, 9);
        dueSets("rule 1", puzzle, 1, set(1), ALL & ~set(1, 9), ALL & ~set(1, 9), set(9));
        dueRules("rule 1", puzzle, -1, -1, -1);
        // Bars end runs, and what stands behind them.
        Gridpuzzle apart = Boards.drawn(3, 1, -1, 0, 0, -1, 0, 0, 0, 0);
        dueSets("rule 1 beside bars", apart, 1, set(1), ALL, ALL & ~set(1), ALL, ALL & ~set(1),
                ALL, ALL);
        Gridpuzzle sums = Boards.withSums(Boards.drawn(2), 3, 3, 3, 3);
        dueSets("rule 1 beside sums", sums, 1, ALL, ALL, ALL, ALL);
    }

    private static void ruleOneInOrder() {
        // The 3 of the cell 0 empties the cell 1, which takes nothing away then; the cell 2 has
        // lost its 3 too, before its turn in the row and in its column.
        Gridpuzzle puzzle = Boards.drawn(3, 3, 3, 3);
        dueSets("rule 1 in order", puzzle, 1, set(3), 0, 0,
                ALL & ~set(3), ALL, ALL, ALL & ~set(3), ALL, ALL);
        // Rows go first: the cell 1 is emptied by the cell 0 before its column is gone through.
        Gridpuzzle rows = Boards.drawn(3, 7, 7, 0, 0, 0, 0, 0, 7);
        dueSets("rule 1, rows first", rows, 1, set(7), 0, ALL & ~set(7),
                ALL & ~set(7), ALL & ~set(7), ALL, ALL & ~set(7), set(7), ALL & ~set(7));
        // One going through ends it, with all of its runs, and no second one comes.
        dueSets("the same by all rules", rows, 3, set(7), 0, ALL & ~set(7),
                ALL & ~set(7), ALL & ~set(7), ALL, ALL & ~set(7), set(7), ALL & ~set(7));
    }

    private static void ruleTwo() {
        // Of the sum 4 in two cells: 1 3; of 17: 8 9; of 10: not the 5.
        Gridpuzzle puzzle = Boards.withSums(Boards.drawn(2), 10);
        dueSets("rule 2, the sum 10", puzzle, 2, ALL & ~set(5), ALL & ~set(5), ALL, ALL);
        Gridpuzzle four = Boards.withSums(Boards.drawn(2), 4);
        dueSets("rule 2, the sum 4", four, 2, set(1, 3), set(1, 3), ALL, ALL);
        dueSets("rule 2 is not in rule 1", four, 1, ALL, ALL, ALL, ALL);
        // Of 8 in three cells, 1 2 5 and 1 3 4: with the 5 given, 1 2 5 alone.
        Gridpuzzle given = Boards.withSums(Boards.drawn(3, 0, 5, 0), 8);
        dueSets("rule 2 with a given digit", given, 2, set(1, 2), set(5), set(1, 2),
                ALL, ALL & ~set(5), ALL, ALL, ALL & ~set(5), ALL);
        // With 5 and 3 given no set of 8 is left: all goes, and the going through goes on.
        Gridpuzzle wrong = Boards.withSums(Boards.drawn(3, 0, 5, 3), 8, 0, 6);
        dueSets("rule 2 without a set", wrong, 2, 0, 0, 0, ALL, ALL & ~set(5), ALL & ~set(3),
                set(1, 2, 3), set(1, 2, 3), set(1, 2));
        // Sets are taken whatever the candidates of cells with more than one of them are: the
        // row 1 makes 9 with 1 8, 2 7, 3 6, 4 5; 9 itself goes alone.
        Gridpuzzle nine = Boards.withSums(Boards.drawn(2, 1, 0, 0, 0), 0, 9);
        dueSets("rule 2, the sum 9", nine, 2, set(1), ALL & ~set(1),
                ALL & ~set(1, 9), ALL & ~set(9));
        Gridpuzzle none = Boards.withSums(Boards.drawn(2), 45);
        dueSets("rule 2, no set at all", none, 2, 0, 0, ALL, ALL);
    }

    private static void ruleTwoBeginsAgain() {
        // Rows 3 and 4, columns 4 and 3: 1 2 / 3 1.
        Gridpuzzle puzzle = Boards.withSums(Boards.drawn(2), 3, 4, 4, 3);
        dueSets("rules 1 and 2", puzzle, 2, set(1), set(2), set(3), set(1));
        dueRules("rules 1 and 2", puzzle, 2, 0, 2);
        puzzle.give(0, 1);
        dueRules("a given cell is no hint", puzzle, 2, 1, 2);
        puzzle.give(1, 2);
        puzzle.give(4, 3);
        dueRules("the last cell", puzzle, 2, 5, 2);
        puzzle.give(5, 1);
        dueRules("all are given", puzzle, 0, -1, -1);
    }

    private static void ruleThree() {
        // Rows 12 and 16, columns 15 and 13: 8 4 / 7 9. The rules 1 and 2 leave 7 8 9 and
        // 4 5 7 8 9 above, 7 9 and 7 9 below; the rule 3 does the rest.
        Gridpuzzle puzzle = Boards.withSums(Boards.drawn(2), 12, 16, 15, 13);
        dueSets("before rule 3", puzzle, 2, set(7, 8, 9), set(4, 5, 7, 8, 9), set(7, 9), set(7, 9));
        dueSets("rule 3", puzzle, 3, set(8), set(4), set(7), set(9));
        dueRules("rule 3", puzzle, 3, 0, 3);
        // Of 7 in three cells 1 2 4 alone; a 4 and a 2 below leave the 1 and 2 for the first
        // cell, and with them each cell keeps what makes 7.
        Gridpuzzle three = Boards.withSums(Boards.drawn(3, 0, 0, 0, 4, 0, 2), 7);
        dueSets("rule 3 of three cells", three, 3, set(1, 2), set(1, 2, 4), set(1, 4),
                set(4), ALL & ~set(2, 4), set(2), ALL & ~set(4), ALL, ALL & ~set(2));
        // Unlike digits: 8 in two cells never by 4 and 4, but 4 goes by the rule 2 already; in
        // three cells 3 stays beside 1 and 4, and 2 beside 1 and 5.
        Gridpuzzle eight = Boards.withSums(Boards.drawn(3), 8);
        dueSets("rule 3 of unlike digits", eight, 3, set(1, 2, 3, 4, 5), set(1, 2, 3, 4, 5),
                set(1, 2, 3, 4, 5), ALL, ALL, ALL, ALL, ALL, ALL);
        // The 9 is given beneath: 10 by 1 9, 2 8, 3 7, 4 6, so the 1 goes from the other cell.
        Gridpuzzle ten = Boards.withSums(Boards.drawn(2, 0, 0, 9, 0), 10);
        dueSets("before rule 3 takes at once", ten, 2, ALL & ~set(5, 9), ALL & ~set(5), set(9),
                ALL & ~set(9));
        dueSets("rule 3 takes at once", ten, 3, ALL & ~set(5, 9), ALL & ~set(1, 5), set(9),
                ALL & ~set(9));
        dueRules("rule 3 without an end", ten, -1, -1, -1);
        // Of 10 in four cells 1 2 3 4, and of 30 6 7 8 9.
        Gridpuzzle four = Boards.withSums(Boards.drawn(4), 10, 0, 0, 30);
        for (int cell = 0; cell < 4; cell++) {
            Check.due("rule 3 of four cells", four.candidates(cell, 3), set(1, 2, 3, 4));
            Check.due("rule 3 of no sum", four.candidates(4 + cell, 3), ALL);
            Check.due("rule 3 of the sum 30", four.candidates(12 + cell, 3), set(6, 7, 8, 9));
        }
    }

    private static void endsAtAnEmptyCell() {
        // Rows 17 and 4, columns 4 and 3: the cells 0 and 1 are emptied in the first going
        // through of the rule 2, the cell 5 comes to 1, and its 1 is not taken from the cell 4.
        Gridpuzzle puzzle = Boards.withSums(Boards.drawn(2), 17, 4, 4, 3);
        dueSets("an empty cell", puzzle, 3, 0, 0, set(1, 3), set(1));
        dueSets("an empty cell by two rules", puzzle, 2, 0, 0, set(1, 3), set(1));
        dueRules("an empty cell", puzzle, -1, 5, 2);
        // The rule 1 empties the cell 1; the sum 3 of the second row is never looked at.
        Gridpuzzle first = Boards.withSums(Boards.drawn(2, 5, 5, 0, 0), 0, 3);
        dueSets("empty by rule 1", first, 3, set(5), 0, ALL & ~set(5), ALL);
        dueRules("empty by rule 1", first, -1, -1, -1);
        // The first row makes 17 by 8 9, the first column 3 by 1 2: the cell 0 alone is emptied,
        // and the rule 3 is not gone through, which would take all from both runs.
        Gridpuzzle corner = Boards.withSums(Boards.drawn(2), 17, 0, 3);
        dueSets("the first cell is emptied", corner, 3, 0, set(8, 9), set(1, 2), ALL);
        dueRules("the first cell is emptied", corner, -1, -1, -1);
        // The first row makes 10 by 1 2 3 4, but three of its cells have 1 2 alone: the rule 3
        // empties it and the columns that hold them, and leaves the cell 4 as it is.
        Gridpuzzle crowded = Boards.drawn(4, 0, 0, 0, 0, 0, 0, 0, 0, -1, -1, -1, -1);
        Boards.withSums(crowded, 10, 0, 0, 0, 3, 3, 3);
        dueSets("before it is emptied", crowded, 2, set(1, 2, 3, 4), set(1, 2), set(1, 2),
                set(1, 2), ALL, set(1, 2), set(1, 2), set(1, 2), ALL, ALL, ALL, ALL);
        dueSets("emptied by rule 3", crowded, 3, 0, 0, 0, 0, ALL, 0, 0, 0, ALL, ALL, ALL, ALL);
        // The second row makes 8 without 8, the first column 9 by 1 8: the cell 4 is emptied, in
        // that column, and the cell 5 keeps what the row had left it before.
        Gridpuzzle second = Boards.withSums(Boards.drawn(2, 1, 0, 0, 0), 0, 8, 9);
        dueSets("empty by rule 2", second, 3, set(1), ALL & ~set(1), 0, set(1, 2, 3, 5, 6, 7));
        dueRules("empty by rule 2", second, -1, -1, -1);
    }

    private static void level() {
        Check.due("level() of no open cell", Boards.drawn(2, -1, -1, -1, -1).level(), 0);
        Check.due("level() of lone given cells", Boards.drawn(2, 4, -1, -1, 4).level(), 0);
        Check.due("level() of a lone blank cell", Boards.drawn(2, 4, -1, -1, 0).level(), -1);
        Check.due("level() of all given", Boards.drawn(2, 1, 2, 3, 4).level(), 0);
        Check.due("level() of one twice", Boards.drawn(2, 1, 2, 2, 2).level(), -1);
        Check.due("level() of the first cell alone blank", Boards.drawn(2, 0, 1, 2, 3).level(), -1);
        Check.due("level() of the last cell alone blank", Boards.drawn(2, 1, 2, 2, 0).level(), -1);
        Gridpuzzle right = Boards.withSums(Boards.drawn(2, 1, 2, 3, 4), 3, 7, 4, 6);
        Check.due("level() of right sums", right.level(), 0);
        right.setSum(3, 7);
        Check.due("level() of a wrong sum", right.level(), -1);
        // The level is that of the hardest rule, not of the last: the rule 3 opens what the
        // rules 1 and 2 end, and the first hint comes by 2.
        Gridpuzzle mixed = Boards.pressed(3, -1, 7, 6, 4, 9, -1, 2, 4, 1);
        dueRules("rule 3 behind a hint by 2", mixed, 3, 9, 2);
        Check.due("level() of a new board", new Gridpuzzle().level(), -1);
    }

    private static void hints() {
        dueRules("a new board", new Gridpuzzle(), -1, -1, -1);
        dueRules("no open cell", Boards.drawn(2, -1, -1, -1, -1), 0, -1, -1);
        // The third row makes 23 by 6 8 9, the third column 10 by digits below 8: the 6 is found.
        Gridpuzzle crossing = Boards.pressed(3, 2, 7, 1, 7, 4, 3, 8, 9, 6);
        dueRules("a hint without an end", crossing, -1, 10, 2);
        // By two rules the cell 9 is the first, by three the cell 1 would be.
        Gridpuzzle fewest = Boards.pressed(3, -1, 7, 6, 4, 9, -1, 2, 4, 1);
        Check.due("the cell 1 by three rules", fewest.candidates(1, 3), set(7));
        Check.due("the cell 1 by two rules", Integer.bitCount(fewest.candidates(1, 2)) > 1, true);
        Check.due("hint() by the fewest rules", fewest.hint(), 9);
        Check.due("hintRules() of it", fewest.hintRules(), 2);
        // Rows 19 and 16, columns 8 and 13. By the rule 3 the first row has 6 and more behind its
        // first cell, so the last cell is below 6, the first of its row above 1, and the 1 that
        // the column 8 cannot do without is left to the cell 4.
        Gridpuzzle third = Boards.pressed(3, 3, 7, 9, 1, -1, 1, 4, 9, 3);
        dueRules("a hint by the rule 3", third, -1, 4, 3);
        dueSets("a hint by the rule 3", third, 3, set(2, 3, 4, 5), set(6, 7, 8, 9),
                set(6, 7, 8, 9), set(1), set(1, 2, 3, 4, 5), set(2, 3, 4, 5), set(7, 8, 9),
                set(2, 3, 4, 5));
    }

    private static void candidatesThrows() {
        Gridpuzzle puzzle = Boards.drawn(3, 1, -1);
        for (int last : new int[] {Integer.MIN_VALUE, -1, 4, 5, Integer.MAX_VALUE}) {
            Boards.dueThrown("candidates(0, " + last + ")", puzzle,
                    () -> puzzle.candidates(0, last), Check.ARGUMENT);
            Boards.dueThrown("candidates(1, " + last + "), barred", puzzle,
                    () -> puzzle.candidates(1, last), Check.ARGUMENT);
            Boards.dueThrown("candidates(3, " + last + "), no cell", puzzle,
                    () -> puzzle.candidates(3, last), Check.CELL_OR_RUN);
        }
        for (int last = 0; last <= 3; last++) {
            Check.due("candidates(1, " + last + "), barred", puzzle.candidates(1, last), 0);
        }
        Boards.dueThrownForNoCell("candidates", (x, cell) -> x.candidates(cell, 2));
    }
}
