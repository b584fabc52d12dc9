/** The promises 14 to 16: answers, answersByAll, mend. */
public final class AnswersTest {
    public static void main(String[] args) {
        answers();
        answersOfGivenDigitsAlone();
        answersOfLoneCells();
        givenUp();
        lastTry();
        lastTryOfAll();
        answersByAll();
        mend();
        mendAboveZero();
        mendThrows();
        Check.end("AnswersTest");
    }

    private static void dueAnswers(Gridpuzzle puzzle, String what, int... wanted) {
        String before = Boards.state(puzzle);
        for (int most = 1; most <= 5; most++) {
            Check.due(what + ": answers(" + most + ")", puzzle.answers(most), wanted[most - 1]);
        }
        Boards.dueState(what + ": answers() changes nothing", puzzle, before);
    }

    private static void answers() {
        Gridpuzzle open = Boards.drawn(2);
        dueAnswers(open, "an open board", 1, 2, 3, 4, 5);
        // Rows 3 and 3: 1 2 / 2 1 and 2 1 / 1 2.
        dueAnswers(Boards.withSums(Boards.drawn(2), 3, 3), "two answers", 1, 2, 2, 2, 2);
        dueAnswers(Boards.withSums(Boards.drawn(2), 3, 4, 4, 3), "one answer", 1, 1, 1, 1, 1);
        dueAnswers(Boards.withSums(Boards.drawn(2), 3, 17), "more than one sum", 1, 2, 3, 4, 4);
        dueAnswers(Boards.withSums(Boards.drawn(2), 1), "a sum too small", 0, 0, 0, 0, 0);
        dueAnswers(Boards.withSums(Boards.drawn(2), 18), "a sum too great", 0, 0, 0, 0, 0);
        // The first row makes 3 with 1 2 alone, beside a 2 in the cell 4.
        Gridpuzzle given = Boards.withSums(Boards.drawn(2, 0, 0, 2, 0), 3, 3);
        dueAnswers(given, "a given digit", 1, 1, 1, 1, 1);
        dueAnswers(Boards.drawn(2, -1, -1, -1, 0), "a lone cell", 1, 2, 3, 4, 5);
        Gridpuzzle puzzle = new Gridpuzzle();
        for (int most : new int[] {Integer.MIN_VALUE, -1, 0, 6, 7, Integer.MAX_VALUE}) {
            Boards.dueThrown("answers(" + most + ")", puzzle, () -> puzzle.answers(most),
                    Check.ARGUMENT);
        }
    }

    private static void answersOfGivenDigitsAlone() {
        dueAnswers(Boards.drawn(2, 1, 2, 3, 1), "all given", 1, 1, 1, 1, 1);
        dueAnswers(Boards.drawn(2, 1, 2, 3, 2), "all given, one twice", 0, 0, 0, 0, 0);
        Gridpuzzle right = Boards.withSums(Boards.drawn(2, 1, 2, 3, 1), 3, 4);
        dueAnswers(right, "all given, right sums", 1, 1, 1, 1, 1);
        Gridpuzzle wrong = Boards.withSums(Boards.drawn(2, 1, 2, 3, 1), 3, 5);
        dueAnswers(wrong, "all given, a wrong sum", 0, 0, 0, 0, 0);
        dueAnswers(Boards.drawn(2, -1, -1, -1, -1), "no open cell", 1, 1, 1, 1, 1);
        // A run of given digits alone is looked at only when all have digits.
        dueAnswers(Boards.drawn(2, 4, 4, 0, 0), "twice among given ones", 0, 0, 0, 0, 0);
        Gridpuzzle sum = Boards.withSums(Boards.drawn(2, 4, 5, 0, 0), 8);
        dueAnswers(sum, "a wrong sum of given ones", 0, 0, 0, 0, 0);
        sum.setSum(0, 9);
        dueAnswers(sum, "a right sum of given ones", 1, 2, 3, 4, 5);
    }

    /** Cells that no run has are not bound by the sums of the runs beside them. */
    private static void answersOfLoneCells() {
        Gridpuzzle lone = Boards.drawn(3, 0, 0, -1, -1, -1, -1, -1, -1, 0);
        dueAnswers(Boards.withSums(lone, 3), "a lone cell and a run", 1, 2, 3, 4, 5);
        Gridpuzzle moved = Boards.drawn(3, 0, -1, -1, 0, -1, -1, -1, -1, -1);
        Check.due("lengthOf(0) of a column", moved.lengthOf(0), 2);
        moved.bar(0);
        moved.bar(9);
        moved.bar(10);
        moved.give(9, 1);
        dueAnswers(Boards.withSums(moved, 3), "a cell that has lost its run", 1, 2, 3, 4, 5);
        Gridpuzzle next = Boards.drawn(4, 1, 2, 3, 4, 0, -1, -1, -1, -1, -1, -1, -1, -1, -1, -1, -1);
        dueAnswers(Boards.withSums(next, 10), "a cell in a column alone", 1, 2, 3, 4, 5);
    }

    private static void givenUp() {
        Gridpuzzle twice = Boards.drawn(3, 3, 3);
        dueAnswers(twice, "given up", -1, -1, -1, -1, -1);
        // Two answers are found and a third is sought in vain: what was found does not count.
        Gridpuzzle late = Boards.drawn(4, 0, 0, 4, -1, -1, 0, 0, 0, 0, 0, 0, 0, 0, 0, -1);
        Boards.withSums(late, 0, 0, 18, 0, 9, 13, 16, 23);
        dueAnswers(late, "given up behind two", 1, 2, -1, -1, -1);
        // 9 + 81 + 729 + 6561 tries, and no answer; with one lone cell more they are too many.
        Gridpuzzle four = Boards.drawn(4, 1, 1, -1, 0, -1, -1, 0, -1, 0, -1, -1, -1, -1, 0, -1, -1);
        dueAnswers(four, "four lone cells", 0, 0, 0, 0, 0);
        four.bar(15);
        dueAnswers(four, "five lone cells", -1, -1, -1, -1, -1);
    }

    /** Boards whose last answer comes by the try 20000, and by the one behind it. */
    private static void lastTry() {
        Gridpuzzle first = Boards.drawn(4, 0, 0, 0, 0, 0, 0, 0, -1, 0, 0, 0, -1, 0, 0, 0, -1);
        Boards.withSums(first, 16, 0, 15, 17, 20, 15, 21);
        Check.due("the first answer by the try 20000", first.answers(1), 1);
        Gridpuzzle second = Boards.withSums(Boards.drawn(4), 20, 0, 0, 14, 0, 20, 18);
        Check.due("the second answer by the try 20000", second.answers(2), 2);
        Check.due("one more", second.answers(3), -1);
        Gridpuzzle fifth = Boards.withSums(new Gridpuzzle(), 0, 7, 15, 0, 21);
        Check.due("the fifth answer by the try 20000", fifth.answers(5), 5);
        Gridpuzzle late = Boards.drawn(4, 0, 0, 0, 0, 0, 0, 0, 8, 0, -1);
        Boards.withSums(late, 20, 23, 12, 18, 0, 5, 14, 29);
        Check.due("the first answer by the try 20001", late.answers(1), -1);
        Gridpuzzle lateTwo = Boards.withSums(Boards.drawn(3, 0, 0, 0, 0, 0, 4), 0, 0, 22, 0, 20, 14);
        Check.due("the first answer before it", lateTwo.answers(1), 1);
        Check.due("the second answer by the try 20001", lateTwo.answers(2), -1);
    }

    /** Boards without an answer, with 19998 tries in all and with 20007. */
    private static void lastTryOfAll() {
        Gridpuzzle few = Boards.drawn(3, 0, 0, 0, 0, 6, 0, 0, 9, 0);
        Boards.withSums(few, 0, 20, 10, 10);
        dueAnswers(few, "19998 tries", 0, 0, 0, 0, 0);
        Gridpuzzle many = Boards.withSums(new Gridpuzzle(), 19, 22, 10, 16, 23, 15);
        dueAnswers(many, "20007 tries", -1, -1, -1, -1, -1);
    }

    private static void answersByAll() {
        // Rings of four cells, each unlike the next, in nine digits: 8 to the 4th, and 8 more.
        Check.due("all of an open board", Boards.drawn(2).answersByAll(), 4104);
        Check.due("all of four lone cells", Boards.drawn(3, 0, -1, 0, -1, -1, -1, 0, -1, 0)
                .answersByAll(), 6561);
        // Two digits are not the cell's own: 7 * 8 + 8 ways for the other two.
        Check.due("all beside a 1", Boards.drawn(2, 1, 0, 0, 0).answersByAll(), 456);
        Check.due("all of two sums", Boards.withSums(Boards.drawn(2), 3, 3).answersByAll(), 2);
        Check.due("all of no answer", Boards.withSums(Boards.drawn(2), 45).answersByAll(), 0);
        Check.due("all of given ones", Boards.drawn(2, 1, 2, 2, 1).answersByAll(), 1);
        Check.due("all of given ones twice", Boards.drawn(2, 1, 2, 1, 3).answersByAll(), 0);
        Check.due("all of a wrong sum", Boards.withSums(Boards.drawn(2, 1, 2, 2, 1), 0, 0, 4)
                .answersByAll(), 0);
        Check.due("all of no open cell", Boards.drawn(2, -1, -1, -1, -1).answersByAll(), 1);
        Gridpuzzle four = Boards.drawn(4, 1, 2, 3, 4, 2, 1, 4, 3, 3, 4, 1, 2, 0, 0, 0, 0);
        // Each of the last four has six digits left that its column has not, all unlike: counted
        // by taking the digits 5 to 9 and what each column still lacks of 1 to 4.
        Check.due("all of the last row", four.answersByAll(), lastRows());
        Boards.withSums(four, 0, 0, 0, 10);
        Check.due("all of the last row that make 10", four.answersByAll(), 1);
        String before = Boards.state(four);
        four.answersByAll();
        Boards.dueState("answersByAll() changes nothing", four, before);
        Gridpuzzle five = Boards.drawn(3, 1, 2, 3, 4);
        Boards.dueThrown("five cells without a digit", five, five::answersByAll, Check.STATE);
        Gridpuzzle fresh = new Gridpuzzle();
        Boards.dueThrown("a new board", fresh, fresh::answersByAll, Check.STATE);
        five.give(5, 5);
        Check.due("four cells without a digit", five.answersByAll(),
                fillingsOf("123", "45_", "___"));
    }

    private static int lastRows() {
        return fillingsOf("1234", "2143", "3412", "____");
    }

    /** Counts by texts: each _ is filled in all ways, no digit twice in a row or a column. */
    private static int fillingsOf(String... rows) {
        for (int row = 0; row < rows.length; row++) {
            int blank = rows[row].indexOf('_');
            if (blank >= 0) {
                int count = 0;
                for (char digit = '1'; digit <= '9'; digit++) {
                    String[] next = rows.clone();
                    next[row] = rows[row].substring(0, blank) + digit + rows[row].substring(blank + 1);
                    if (isFree(rows, row, blank, digit)) {
                        count += fillingsOf(next);
                    }
                }
                return count;
            }
        }
        return 1;
    }

    private static boolean isFree(String[] rows, int row, int column, char digit) {
        if (rows[row].indexOf(digit) >= 0) {
            return false;
        }
        for (String each : rows) {
            if (each.charAt(column) == digit) {
                return false;
            }
        }
        return true;
    }

    private static void mend() {
        Gridpuzzle puzzle = Boards.withSums(Boards.drawn(2), 3, 3);
        Check.due("mend() of two answers", puzzle.mend(), 0);
        Boards.dueState("behind mend()", puzzle, "10xx00xxxxxxxxxx open 4, 0 by 2 makes 3,"
                + " 4 by 2 makes 3, 0 by 2 makes 0, 1 by 2 makes 0");
        Check.due("mend() of one answer", puzzle.mend(), -1);
        Boards.dueState("behind mend() again", puzzle, "10xx00xxxxxxxxxx open 4, 0 by 2 makes 3,"
                + " 4 by 2 makes 3, 0 by 2 makes 0, 1 by 2 makes 0");
        Gridpuzzle none = Boards.withSums(Boards.drawn(2), 1);
        Check.due("mend() of no answer", none.mend(), -1);
        Check.due("mend() of all given", Boards.drawn(2, 1, 2, 2, 1).mend(), -1);
        Check.due("mend() of no open cell", Boards.drawn(2, -1, -1, -1, -1).mend(), -1);
    }

    private static void mendAboveZero() {
        // 1 2 / 2 1 and 1 2 / 2 3 come first: they differ in the last cell, which gets the 1.
        Gridpuzzle last = Boards.drawn(2);
        Check.due("mend() of an open board", last.mend(), 5);
        Check.due("digit(5) behind it", last.digit(5), 1);
        // Then 1 2 / 2 1 and 1 2 / 3 1.
        Check.due("mend() again", last.mend(), 4);
        Check.due("digit(4) behind it", last.digit(4), 2);
        // Then 1 2 / 2 1 and 1 3 / 2 1.
        Check.due("mend() once more", last.mend(), 1);
        Check.due("digit(1) behind it", last.digit(1), 2);
        // Then 1 and 3, beside two 2.
        Check.due("mend() of the last cell", last.mend(), 0);
        Check.due("digit(0) behind it", last.digit(0), 1);
        Check.due("mend() of all given", last.mend(), -1);
        // The second row makes 4, 1 3 or 3 1; the first 17, 8 9 alone by the given 9.
        Gridpuzzle row = Boards.withSums(Boards.drawn(2, 0, 9, 0, 0), 17, 4);
        Check.due("mend() of the second row", row.mend(), 4);
        Boards.dueState("behind mend() of it", row, "09xx10xxxxxxxxxx open 4, 0 by 2 makes 17,"
                + " 4 by 2 makes 4, 0 by 2 makes 0, 1 by 2 makes 0");
    }

    private static void mendThrows() {
        Gridpuzzle twice = Boards.drawn(3, 3, 3);
        Boards.dueThrown("mend() given up", twice, twice::mend, Check.STATE);
        Gridpuzzle late = Boards.withSums(Boards.drawn(3, 0, 0, 0, 0, 0, 4), 0, 0, 22, 0, 20, 14);
        Boards.dueThrown("mend() given up behind one", late, late::mend, Check.STATE);
        Gridpuzzle second = Boards.withSums(Boards.drawn(4), 20, 0, 0, 14, 0, 20, 18);
        Check.due("mend() of the second by the try 20000", second.mend() >= 0, true);
    }
}
