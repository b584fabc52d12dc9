/**
 * The edges of the rules: runs that end at the board's edge and at bars, the first rules alone, the
 * end of going through the rules, and what they leave of the first and of the last cell.
 */
public final class RuleEdgesTest {
    private static final int ALL = 0x3FE;
    private static final int NINE = 1 << 9;

    public static void main(String[] args) {
        for (int size = 2; size <= 4; size++) {
            ruleOneReaches(size);
            ruleOneBesideBars(size);
            for (int run = 0; run < 2 * size; run++) {
                sumReaches(size, run);
            }
            endsWhereACellIsEmpty(size);
            nothingToTakeAway(size);
        }
        theMostThatRuleOneTakes();
        lastRuleAlone();
        ruleOneBeginsAgain();
        ruleTwoLooksThen();
        ruleTwoLooksOnce();
        ruleTwoOfTwoAlike();
        ruleThreeBeginsAgain();
        endsBehindRuleThree();
        goesOnAsLongAsItTakesAway();
        emptyRunBesideTheEdge();
        barsDoNotEndIt();
        levelOfEachRule();
        firstAndLastCell();
        oneCallBehindAnother();
        Check.end("RuleEdgesTest");
    }

    private static int cellAt(int size, int number) {
        return 4 * (number / size) + number % size;
    }

    private static boolean inLine(int one, int other) {
        return one / 4 == other / 4 || one % 4 == other % 4;
    }

    /** A given digit goes from its row and its column, and from no cell beyond their ends. */
    private static void ruleOneReaches(int size) {
        for (int i = 0; i < size * size; i++) {
            int given = cellAt(size, i);
            Gridpuzzle puzzle = Boards.drawn(size);
            puzzle.give(given, 9);
            for (int j = 0; j < size * size; j++) {
                int cell = cellAt(size, j);
                int due = cell == given ? NINE : inLine(cell, given) ? ALL & ~NINE : ALL;
                String of = "candidates(" + cell + ", 1) beside a 9 in the cell " + given;
                Check.due(of, puzzle.candidates(cell, 1), due);
                Check.due(of + ", by all rules", puzzle.candidates(cell, 3), due);
                Check.due(of + ", by none", puzzle.candidates(cell, 0), cell == given ? NINE : ALL);
            }
        }
    }

    /** Around a given digit all cells beside it are barred: it goes from none. */
    private static void ruleOneBesideBars(int size) {
        for (int i = 0; i < size * size; i++) {
            int given = cellAt(size, i);
            Gridpuzzle puzzle = Boards.drawn(size);
            puzzle.give(given, 9);
            for (int j = 0; j < size * size; j++) {
                int cell = cellAt(size, j);
                int apart = Math.abs(cell / 4 - given / 4) + Math.abs(cell % 4 - given % 4);
                if (apart == 1) {
                    puzzle.bar(cell);
                }
            }
            for (int j = 0; j < size * size; j++) {
                int cell = cellAt(size, j);
                int digit = puzzle.digit(cell);
                int due = digit == -1 ? 0 : digit == 9 ? NINE : ALL;
                Check.due("candidates(" + cell + ", 3) with bars around the cell " + given,
                        puzzle.candidates(cell, 3), due);
            }
        }
    }

    /** The least sum of one run alone, with a 9 in each cell outside of it. */
    private static void sumReaches(int size, int run) {
        int sum = size * (size + 1) / 2;
        int kept = (1 << size + 1) - 2;
        for (int i = 0; i < size * size; i++) {
            int given = cellAt(size, i);
            if (isInRun(size, run, given)) {
                continue;
            }
            Gridpuzzle puzzle = Boards.drawn(size);
            puzzle.setSum(run, sum);
            puzzle.give(given, 9);
            for (int last = 2; last <= 3; last++) {
                for (int j = 0; j < size * size; j++) {
                    int cell = cellAt(size, j);
                    int due = cell == given ? NINE : isInRun(size, run, cell) ? kept
                            : inLine(cell, given) ? ALL & ~NINE : ALL;
                    Check.due("candidates(" + cell + ", " + last + "), the run " + run + " makes "
                            + sum + ", a 9 in the cell " + given, puzzle.candidates(cell, last),
                            due);
                }
            }
            Check.due("level() of it", puzzle.level(), -1);
            Check.due("hint() of it", puzzle.hint(), -1);
        }
    }

    /** On a board without bars the rows are the first runs, and the columns the others. */
    private static boolean isInRun(int size, int run, int cell) {
        return run < size ? cell / 4 == run : cell % 4 == run - size;
    }

    /** A cell without candidates ends it behind that going through, wherever the cell is. */
    private static void endsWhereACellIsEmpty(int size) {
        for (int i = 0; i < size * size; i++) {
            int cell = cellAt(size, i);
            int row = cell / 4;
            Gridpuzzle puzzle = Boards.drawn(size);
            // The digits of the row stay below 5, those of the column above it.
            puzzle.setSum(row, size * (size + 1) / 2);
            puzzle.setSum(size + cell % 4, size * (19 - size) / 2);
            for (int j = 0; j < size * size; j++) {
                int other = cellAt(size, j);
                // The rule 3 would have taken all from the row and the column, and does not come.
                int due = other == cell ? 0 : other / 4 == row ? (1 << size + 1) - 2
                        : other % 4 == cell % 4 ? ((1 << size) - 1) << 10 - size : ALL;
                Check.due("candidates(" + other + ", 3), the cell " + cell + " is emptied",
                        puzzle.candidates(other, 3), due);
            }
            Check.due("level(), the cell " + cell + " is emptied", puzzle.level(), -1);
            Check.due("hint(), the cell " + cell + " is emptied", puzzle.hint(), -1);
            Check.due("hintRules(), the cell " + cell + " is emptied", puzzle.hintRules(), -1);
        }
    }

    private static void nothingToTakeAway(int size) {
        Gridpuzzle puzzle = Boards.drawn(size);
        // All digits but 5 are in a set of two that makes 10: the sum 15 of three cells and the
        // sum 20 of four leave all nine.
        if (size > 2) {
            for (int run = 0; run < 2 * size; run++) {
                puzzle.setSum(run, 5 * size);
            }
        }
        for (int i = 0; i < size * size; i++) {
            for (int last = 0; last <= 3; last++) {
                Check.due("candidates(" + cellAt(size, i) + ", " + last + ") of " + size
                        + " rows, nothing to take away", puzzle.candidates(cellAt(size, i), last),
                        ALL);
            }
        }
        Check.due("level() of it", puzzle.level(), -1);
        Check.due("hint() of it", puzzle.hint(), -1);
        Check.due("hintRules() of it", puzzle.hintRules(), -1);
    }

    /** Six cells are beside each one at most, so that the rule 1 leaves it three digits. */
    private static void theMostThatRuleOneTakes() {
        Gridpuzzle puzzle = Boards.drawn(4, 0, 1, 2, 3, 4, 0, 0, 0, 5, 0, 0, 0, 6);
        int left = 1 << 7 | 1 << 8 | NINE;
        Check.due("candidates(0, 1) beside 1 to 6", puzzle.candidates(0, 1), left);
        Check.due("candidates(0, 3) beside 1 to 6", puzzle.candidates(0, 3), left);
        Check.due("hint() beside 1 to 6", puzzle.hint(), -1);
        Check.due("hintRules() beside 1 to 6", puzzle.hintRules(), -1);
        Check.due("level() beside 1 to 6", puzzle.level(), -1);
        puzzle.setSum(0, 14);
        Check.due("candidates(0, 1) with a sum", puzzle.candidates(0, 1), left);
        Check.due("candidates(0, 2) with a sum", puzzle.candidates(0, 2), 1 << 8);
        Check.due("hint() with a sum", puzzle.hint(), 0);
        Check.due("hintRules() with a sum", puzzle.hintRules(), 2);
    }

    /** With the last rule told, the ones behind it are not gone through. */
    private static void lastRuleAlone() {
        // 2 and 2 in a row of the sum 17: no rules leave them, the rule 1 empties the cell 1.
        Gridpuzzle wrong = Boards.withSums(Boards.drawn(2, 2, 2, 0, 0), 17, 17);
        dueCandidates("no rules", wrong, 0, 1 << 2, 1 << 2, ALL, ALL);
        for (int last = 1; last <= 3; last++) {
            dueCandidates("emptied by the rule 1", wrong, last, 1 << 2, 0, ALL & ~(1 << 2), ALL);
        }
        // 12 and 16, 15 and 13: each rule has its own end.
        Gridpuzzle right = Boards.withSums(Boards.drawn(2), 12, 16, 15, 13);
        dueCandidates("no rules", right, 0, ALL, ALL, ALL, ALL);
        dueCandidates("the rule 1", right, 1, ALL, ALL, ALL, ALL);
        dueCandidates("the rules 1 and 2", right, 2, set(7, 8, 9), set(4, 5, 7, 8, 9), set(7, 9),
                set(7, 9));
        dueCandidates("all rules", right, 3, set(8), set(4), set(7), set(9));
    }

    private static int set(int... digits) {
        int bits = 0;
        for (int digit : digits) {
            bits |= 1 << digit;
        }
        return bits;
    }

    /** When the rule 1 has taken something away, it comes itself again. */
    private static void ruleOneBeginsAgain() {
        // The rule 2 leaves the cell 0 the 6 and the cell 4 6 and 7; then the rule 1 leaves the
        // cell 4 the 7 in a column, and takes it from the cell 5 in the row, gone through before.
        Gridpuzzle again = Boards.withSums(Boards.drawn(2, 0, 9, 0, 0), 15, 0, 13);
        dueCandidates("the rule 1 again", again, 2, set(6), set(9), set(7), ALL & ~set(7, 9));
        dueCandidates("the rule 1 again", again, 3, set(6), set(9), set(7), ALL & ~set(7, 9));
        // In the same way the cell 5 loses the 8, and the rule 3 finds nothing to take away.
        Gridpuzzle solved = Boards.withSums(Boards.drawn(2, 0, 6, 0, 0), 15, 17, 17);
        dueCandidates("solved by the rule 1 again", solved, 2, set(9), set(6), set(8), set(9));
        Check.due("level(), solved by the rule 1 again", solved.level(), 2);
    }

    /** The rule 2 goes by the candidates as they are then, not as it has found them. */
    private static void ruleTwoLooksThen() {
        // It leaves the cell 0 the 6 in the first row, empties the last row, and then leaves the
        // cell 4 what makes 13 with a 6, in the same going through.
        Gridpuzzle puzzle = Boards.drawn(3, 0, 9, -1, 0, 0, 0, -1, 0, 0);
        Boards.withSums(puzzle, 15, 0, 45, 13);
        dueCandidates("a going through of the rule 2", puzzle, 3, set(6), set(9), 0, set(6, 7),
                ALL & ~set(9), ALL, 0, 0, 0);
    }

    /** What the rule 2 leaves of a cell of a run says nothing of the sets of this run as yet. */
    private static void ruleTwoLooksOnce() {
        // The first row makes 5, so that the first column, which makes 13, leaves the cell 0 the 4
        // alone, and the cell 4 what is in 4 9, 5 8 and 6 7. Only then 4 9 is the one set that has
        // the 4, and the cell 4 is emptied; the cell 1 has come to 1 before, in the same going.
        Gridpuzzle puzzle = Boards.withSums(Boards.drawn(2, 0, 0, 0, 9), 5, 0, 13);
        dueCandidates("a run of the rule 2", puzzle, 2, set(4), set(1), 0, set(9));
        dueCandidates("a run of the rule 2", puzzle, 3, set(4), set(1), 0, set(9));
    }

    /** Two cells of a run that have the same candidate alone: its sets need this digit once. */
    private static void ruleTwoOfTwoAlike() {
        // The rows leave the cells 0 and 4 the 2, by 1 2 and 2 6. Their column makes 9 by 1 2 6 and
        // 2 3 4, which the cell 8 keeps; then the rule 1 takes its 2 away and empties the cell 4.
        Gridpuzzle puzzle = Boards.drawn(3, 0, 1, -1, 0, 6, -1, 0, 0, 0);
        Boards.withSums(puzzle, 3, 8, 0, 9);
        dueCandidates("two cells alike", puzzle, 2, set(2), set(1), 0, 0, set(6), 0,
                set(1, 3, 4, 6), ALL & ~set(1, 6), ALL);
        dueCandidates("two cells alike", puzzle, 3, set(2), set(1), 0, 0, set(6), 0,
                set(1, 3, 4, 6), ALL & ~set(1, 6), ALL);
    }

    /** When the rule 3 has taken something away, it begins with the rule 1. */
    private static void ruleThreeBeginsAgain() {
        // 5 4 3 / 8 7 9 / 9 1 7: the cell 0 loses the 9 by the rule 3, and the cell 10 by the
        // rule 1 then, for its row has no sum.
        Gridpuzzle puzzle = Boards.drawn(3, 0, 0, 0, 8, 0, 0, 0, 1, 0);
        Boards.withSums(puzzle, 12, 0, 0, 22, 12, 19);
        Check.due("level() by the rule 1 behind the rule 3", puzzle.level(), 3);
        dueCandidates("the rule 1 behind the rule 3", puzzle, 3, set(5), set(4), set(3), set(8),
                set(7), set(9), set(9), set(1), set(7));
    }

    /** Of a cell that the rule 3 has emptied, the rule 1 does not get to know. */
    private static void endsBehindRuleThree() {
        // The rules 1 and 2 leave 1 3 beside the 8 and 1 2 4 in the last column. Then the rule 3
        // leaves 9 3 4 in the first row, 8 3 4 in the last one, and nothing in the columns.
        Gridpuzzle puzzle = Boards.drawn(3, 0, 0, 0, 0, 8, 0, 0, 0, 0);
        Boards.withSums(puzzle, 16, 0, 15, 0, 12, 7);
        dueCandidates("before the rule 3 empties columns", puzzle, 2, ALL, set(1, 3), set(1, 2, 4),
                ALL & ~set(8), set(8), set(1, 2, 4), ALL, set(1, 3), set(1, 2, 4));
        dueCandidates("the rule 3 empties columns", puzzle, 3, set(9), 0, 0, ALL & ~set(8), 0, 0,
                set(8), 0, 0);
        Check.due("level(), the rule 3 empties columns", puzzle.level(), -1);
        Check.due("hint(), the rule 3 empties columns", puzzle.hint(), 0);
        Check.due("hintRules(), the rule 3 empties columns", puzzle.hintRules(), 3);
    }

    /** There is no last going through as long as something is taken away: here are 53 of them. */
    private static void goesOnAsLongAsItTakesAway() {
        int[] digits = {8, 1, 9, -1, 4, 9, -1, -1, -1, 8, 1, 5, 8, 6, 9, 4};
        Gridpuzzle puzzle = Boards.pressed(4, digits);
        puzzle.give(14, 9);
        Check.due("answers(5) of many goings", puzzle.answers(5), 1);
        Check.due("level() of many goings", puzzle.level(), 3);
        Check.due("hint() of many goings", puzzle.hint(), 10);
        Check.due("hintRules() of many goings", puzzle.hintRules(), 2);
        for (int cell = 0; cell < 16; cell++) {
            int due = digits[cell] == -1 ? 0 : 1 << digits[cell];
            Check.due("candidates(" + cell + ", 3) of many goings", puzzle.candidates(cell, 3),
                    due);
        }
    }

    /** What is taken from a whole row is not taken from the cells behind and before its ends. */
    private static void emptyRunBesideTheEdge() {
        // Three cells of a row that makes 10 stand in columns of two that make 3: they have 1 2
        // alone, and the rule 3 empties the row. Only its fourth cell has a column without a sum,
        // and in it the cell 3, or 12, whose number is beside those of the row.
        Gridpuzzle before = Boards.drawn(4, 0, 0, 0, 0, 0, 0, 0, 0, -1, -1, -1, 0, -1, -1, -1, 0);
        dueEmptyRow(Boards.withSums(before, 0, 10, 3, 3, 3), 4, 3);
        Gridpuzzle behind = Boards.drawn(4, 0, -1, -1, -1, 0, -1, -1, -1);
        dueEmptyRow(Boards.withSums(behind, 10, 0, 0, 3, 3, 3), 8, 12);
    }

    private static void dueEmptyRow(Gridpuzzle puzzle, int first, int beside) {
        for (int cell = first; cell < first + 4; cell++) {
            Check.due("candidates(" + cell + ", 2) of a row", puzzle.candidates(cell, 2) != 0,
                    true);
            Check.due("candidates(" + cell + ", 3) of it, empty", puzzle.candidates(cell, 3), 0);
        }
        Check.due("candidates(" + beside + ", 3) beside it", puzzle.candidates(beside, 3), ALL);
    }

    private static void dueCandidates(String what, Gridpuzzle puzzle, int last, int... sets) {
        int size = sets.length == 4 ? 2 : 3;
        for (int i = 0; i < sets.length; i++) {
            int cell = cellAt(size, i);
            Check.due(what + ": candidates(" + cell + ", " + last + ")",
                    puzzle.candidates(cell, last), sets[i]);
        }
    }

    /** Barred cells have no candidates, but only an open cell without them ends it. */
    private static void barsDoNotEndIt() {
        for (int corner : new int[] {0, 2, 8, 10}) {
            Gridpuzzle puzzle = new Gridpuzzle();
            puzzle.bar(corner);
            int digit = 1;
            for (int i = 0; i < 9; i++) {
                if (cellAt(3, i) != corner) {
                    puzzle.give(cellAt(3, i), digit);
                    digit++;
                }
            }
            puzzle.press();
            String of = " with the cell " + corner + " barred";
            // The rule 2 alone: the least sum of three is 6, by 1 2 3.
            if (corner == 10) {
                Check.due("candidates(0, 2)" + of, puzzle.candidates(0, 2), set(1, 2, 3));
            }
            for (int last = 0; last <= 3; last++) {
                Check.due("candidates(" + corner + ", " + last + ")" + of,
                        puzzle.candidates(corner, last), 0);
            }
        }
        // Two cells alone, the sum 3 and a given 1.
        Gridpuzzle two = Boards.drawn(4, 1, 0);
        for (int cell = 2; cell < 16; cell++) {
            two.bar(cell);
        }
        two.setSum(0, 3);
        Check.due("level() of two cells among bars", two.level(), 2);
        Check.due("hint() of two cells among bars", two.hint(), 1);
        Check.due("hintRules() of two cells among bars", two.hintRules(), 2);
    }

    private static void levelOfEachRule() {
        Check.due("level() of no rule", Boards.drawn(2, 1, 2, 2, 1).level(), 0);
        Gridpuzzle second = Boards.withSums(Boards.drawn(2), 3, 4, 4, 3);
        Check.due("level() of the rule 2", second.level(), 2);
        Gridpuzzle third = Boards.withSums(Boards.drawn(2), 12, 16, 15, 13);
        Check.due("level() of the rule 3", third.level(), 3);
        // All that the rule 1 takes away is behind a rule 2, or empties a cell.
        Check.due("level() of the rule 1", Boards.drawn(2, 1, 1, 2, 3).level(), -1);
        // What a rule has taken away does not count if a cell is left with more than one.
        third.setSum(2, 0);
        third.setSum(3, 0);
        Check.due("candidates(4, 2) without an end", third.candidates(4, 2), set(7, 9));
        Check.due("level() without an end", third.level(), -1);
    }

    private static void firstAndLastCell() {
        // The last row makes 3 and the last column 4: the cell 5 has the 1 that both have.
        Gridpuzzle last = Boards.drawn(2);
        last.setSum(1, 3);
        last.setSum(3, 4);
        Check.due("candidates(5, 2) of the last cell", last.candidates(5, 2), set(1));
        Check.due("hint() of the last cells", last.hint(), 1);
        last.give(1, 3);
        Check.due("hint() of the last row", last.hint(), 4);
        last.give(4, 2);
        Check.due("hint() of the last cell", last.hint(), 5);
        Check.due("hintRules() of the last cell", last.hintRules(), 2);
        last.give(5, 1);
        Check.due("hint() behind the last cell", last.hint(), -1);
        Check.due("hintRules() behind the last cell", last.hintRules(), -1);
        Check.due("level() of the first cell alone", last.level(), -1);
        last.setSum(0, 7);
        Check.due("hint() of the first cell", last.hint(), 0);
        Check.due("hintRules() of the first cell", last.hintRules(), 2);
        Check.due("level() of the first cell", last.level(), 2);
    }

    /** What one call has solved is forgotten by the next one. */
    private static void oneCallBehindAnother() {
        Gridpuzzle puzzle = Boards.withSums(Boards.drawn(2), 12, 16, 15, 13);
        Check.due("level()", puzzle.level(), 3);
        Check.due("candidates(0, 0) behind it", puzzle.candidates(0, 0), ALL);
        Check.due("level() behind it", puzzle.level(), 3);
        Check.due("hintRules() behind it", puzzle.hintRules(), 3);
        Check.due("candidates(0, 1) behind it", puzzle.candidates(0, 1), ALL);
        Check.due("hint() behind it", puzzle.hint(), 0);
        puzzle.give(0, 8);
        puzzle.give(1, 4);
        puzzle.give(4, 7);
        puzzle.give(5, 9);
        Check.due("level() of all given behind it", puzzle.level(), 0);
        Check.due("hint() of all given behind it", puzzle.hint(), -1);
        puzzle.begin(2);
        Check.due("level() of an open board behind it", puzzle.level(), -1);
        Check.due("candidates(5, 3) behind it", puzzle.candidates(5, 3), ALL);
    }
}
