/**
 * Where trying ends: the number of tries at which it is given up and just before it, the told
 * number of answers, the least and the greatest sums, and nothing to be tried.
 */
public final class TryingEdgesTest {
    private static final int MOST_TRIES = 20000;
    private static final int FAR_MORE = 30000;

    /** A board to be tried. PlainPuzzle counts its tries, so that what is said of it is tested. */
    private record Tried(int size, int[] digits, int[] sums) {
        Gridpuzzle drawn() {
            return Boards.withSums(Boards.drawn(size, digits), sums);
        }

        PlainPuzzle plain(int mostTries) {
            PlainPuzzle plain = new PlainPuzzle();
            plain.allowTries(mostTries);
            plain.begin(size);
            for (int i = 0; i < digits.length; i++) {
                int cell = 4 * (i / size) + i % size;
                if (digits[i] == Gridpuzzle.NONE) {
                    plain.bar(cell);
                } else {
                    plain.give(cell, digits[i]);
                }
            }
            for (int run = 0; run < sums.length; run++) {
                plain.setSum(run, sums[run]);
            }
            return plain;
        }
    }

    public static void main(String[] args) {
        byTheLastTry();
        byOneTryMore();
        byTheNextTries();
        endsBeforeTheLastTry();
        endsBehindTheLastTry();
        mendAtTheLastTry();
        mendBehindTheLastTry();
        mendOfOneAnswer();
        exactlySoMany();
        leastAndGreatestSums();
        nothingToTry();
        goesOnBehindGivingUp();
        Check.end("TryingEdgesTest");
    }

    private static int[] digits(int... digits) {
        return digits;
    }

    private static Tried three(int[] digits, int... sums) {
        return new Tried(3, digits, sums);
    }

    private static Tried four(int[] digits, int... sums) {
        return new Tried(4, digits, sums);
    }

    // ---- 20000 tries are made

    private static void byTheLastTry() {
        dueByTheLastTry(1, three(digits(-1), 0, 16, 0, 5, 21, 21));
        dueByTheLastTry(1, four(digits(0, 0, 0, 0, 0, 0, 0, -1, 0, 0, 0, 0, -1), 25, 11, 23, 15, 21,
                14, 21, 10));
        dueByTheLastTry(2, three(digits(0, 0, 0, 0, 2), 0, 0, 16, 15, 18));
        dueByTheLastTry(2, four(digits(0, -1, -1, 0, 0, 0, 0, 0, 0, 0, 0, 0, 0, 0, -1), 17, 24, 9,
                17, 18, 9));
        dueByTheLastTry(3, three(digits(0, 2, 0, 0, 0, 0, 0, -1), 0, 17, 23, 0, 9));
        dueByTheLastTry(3, three(digits(), 15, 0, 13, 21, 9, 17));
        dueByTheLastTry(4, three(digits(0, 0, 0, 0, 0, -1), 0, 8, 17, 20, 11));
        dueByTheLastTry(4, four(digits(), 0, 17, 30, 0, 0, 21, 25));
        dueByTheLastTry(5, three(digits(9), 0, 0, 11, 18, 0, 19));
        dueByTheLastTry(5, four(digits(0, 0, 6, 0, 0, 0, 0, 0, 0, 0, 7, 0, 0, 0, -1), 22, 18, 0, 15,
                22, 17, 17));
    }

    private static void dueByTheLastTry(int answers, Tried tried) {
        PlainPuzzle plain = tried.plain(MOST_TRIES);
        Check.due("answer " + answers + " is there", plain.answers(answers), answers);
        Check.due("answer " + answers + " comes by the try", plain.tries(), MOST_TRIES);
        Gridpuzzle puzzle = tried.drawn();
        for (int most = 1; most <= answers; most++) {
            Check.due("answers(" + most + ") of " + answers + " by the try 20000",
                    puzzle.answers(most), most);
        }
        for (int most = answers + 1; most <= 5; most++) {
            Check.due("answers(" + most + ") of " + answers + " by the try 20000",
                    puzzle.answers(most), -1);
        }
    }

    private static void byOneTryMore() {
        dueByOneTryMore(1, three(digits(), 15, 24, 9, 21, 14, 13));
        dueByOneTryMore(1, four(digits(0, 0, 0, 0, 0, 0, -1, -1, 0, 0, 0, 0, -1, 0, 0, 7), 18, 17,
                30, 17, 18, 30, 10));
        dueByOneTryMore(2, three(digits(0, 0, 5), 0, 17, 9, 19, 17, 8));
        dueByOneTryMore(2, four(digits(-1), 14, 21, 21, 19, 18, 0, 15, 18));
        dueByOneTryMore(3, three(digits(0, 0, 0, 0, 0, 6), 0, 0, 0, 19, 13));
        dueByOneTryMore(3, four(digits(0, 0, -1, 0, 0, 0, 0, 0, 0, 0, -1, -1, -1), 0, 21, 7, 0, 0,
                15, 15));
        dueByOneTryMore(4, three(digits(0, 0, 0, 5), 0, 22, 13, 12, 22, 19));
        dueByOneTryMore(4, four(digits(0, 0, 0, 0, 0, 0, 0, -1), 22, 21, 20, 21, 0, 24, 18, 9));
        dueByOneTryMore(5, three(digits(0, -1, 0, 0, 0, 0, 0, 7, 9), 0, 20, 20, 0, 13));
        dueByOneTryMore(5, four(digits(0, 5, 0, 7, 0, -1, -1), 27, 30, 16, 18, 0, 14, 23));
    }

    private static void dueByOneTryMore(int answers, Tried tried) {
        PlainPuzzle plain = tried.plain(MOST_TRIES + 1);
        Check.due("answer " + answers + " is there", plain.answers(answers), answers);
        Check.due("answer " + answers + " comes by the try", plain.tries(), MOST_TRIES + 1);
        Gridpuzzle puzzle = tried.drawn();
        for (int most = 1; most < answers; most++) {
            Check.due("answers(" + most + ") of " + answers + " by the try 20001",
                    puzzle.answers(most), most);
        }
        for (int most = answers; most <= 5; most++) {
            Check.due("answers(" + most + ") of " + answers + " by the try 20001",
                    puzzle.answers(most), -1);
        }
    }

    /** The second, third and fourth answer come by the tries 20000, 20001 and 20002. */
    private static void byTheNextTries() {
        Tried tried = four(digits(0, 0, -1, 0, 0, 0, 0, 0, 0, 0, -1, -1, -1), 0, 21, 7, 0, 0, 15,
                15);
        int[] tries = {19999, 20000, 20001, 20002};
        Gridpuzzle puzzle = tried.drawn();
        for (int most = 1; most <= 4; most++) {
            PlainPuzzle plain = tried.plain(FAR_MORE);
            Check.due("answer " + most + " is there", plain.answers(most), most);
            Check.due("answer " + most + " comes by the try", plain.tries(), tries[most - 1]);
            Check.due("answers(" + most + ") by the try " + tries[most - 1], puzzle.answers(most),
                    tries[most - 1] <= MOST_TRIES ? most : -1);
        }
    }

    // ---- no more try is to be made: cells are left behind nine tries, so all of them are a
    // number that nine divides, and 19998 and 20007 are the ones on either side of 20000

    private static void endsBeforeTheLastTry() {
        dueEndsBefore(0, three(digits(0, 0, 0, -1), 18, 12, 18, 17, 12));
        dueEndsBefore(0, four(digits(-1, 0, 0, -1, 5, 0, 0, 0, 0, 0, 0, 7, 0, 0, -1), 7, 22, 24, 8,
                10, 14, 21, 23));
        dueEndsBefore(1, three(digits(0, 0, 0, 0, 0, 0, 0, 5), 19, 12, 21, 19, 0, 11));
        dueEndsBefore(1, four(digits(0, 0, -1, -1, -1, 0, 0, 0, 4, 0, 0, 0, 0, 0, -1, 8), 16, 10,
                27, 13, 12, 28, 0, 18));
        dueEndsBefore(2, three(digits(0, 0, 6), 11, 0, 22, 10, 20, 18));
        dueEndsBefore(4, three(digits(0, 0, 0, 2, 0, 0, 0, 0, 2), 0, 11, 16, 15, 19, 8));
        dueEndsBefore(5, three(digits(8), 20, 0, 7, 15, 13, 18));
    }

    private static void dueEndsBefore(int answers, Tried tried) {
        dueTriesInAll(19998, answers, tried);
        Gridpuzzle puzzle = tried.drawn();
        for (int most = 1; most <= 5; most++) {
            Check.due("answers(" + most + ") of " + answers + " in 19998 tries",
                    puzzle.answers(most), Math.min(most, answers));
        }
    }

    private static void endsBehindTheLastTry() {
        dueEndsBehind(0, three(digits(), 12, 13, 6, 9, 12, 12));
        dueEndsBehind(0, four(digits(0, 2, 0, 0, 0, 0, 3, 0, 0, 0, 0, 0, 0, 6), 16, 11, 24, 13, 18,
                14, 10, 20));
        dueEndsBehind(1, three(digits(0, 5, 0, 0, 0, 0, 0, 0, 6), 0, 14, 18, 11, 15, 18));
        dueEndsBehind(2, three(digits(0, 0, 0, 0, 0, 0, 0, 5, 6), 0, 19, 12, 8, 16, 18));
        dueEndsBehind(3, three(digits(0, 0, 0, 0, 5, 0, 0, 0, 6), 0, 15, 12, 10, 15, 19));
        dueEndsBehind(4, four(digits(0, 0, 0, 3, 0, 0, -1, 2, 0, 0, 6), 16, 17, 21, 13, 19, 20, 8,
                18));
        dueEndsBehind(5, three(digits(0, 0, 0, 8), 0, 11, 20, 22, 9, 14));
    }

    private static void dueEndsBehind(int answers, Tried tried) {
        dueTriesInAll(20007, answers, tried);
        Gridpuzzle puzzle = tried.drawn();
        for (int most = 1; most <= 5; most++) {
            Check.due("answers(" + most + ") of " + answers + " in 20007 tries",
                    puzzle.answers(most), most <= answers ? most : -1);
        }
    }

    private static void dueTriesInAll(int tries, int answers, Tried tried) {
        PlainPuzzle plain = tried.plain(FAR_MORE);
        Check.due(tries + " tries: answers in all", plain.answers(5), answers);
        if (answers < 5) {
            Check.due("tries in all, of " + answers + " answers", plain.tries(), tries);
        }
    }

    // ---- mend

    private static void mendAtTheLastTry() {
        dueMend(6, 3, three(digits(0, 0, 0, 0, 2), 0, 0, 16, 15, 18));
        dueMend(0, 2, three(digits(0, 0, 0, 0, 0, 0, 0, 2), 0, 12, 15, 19, 13, 8));
        dueMend(4, 2, three(digits(-1), 0, 0, 0, 11, 15, 21));
    }

    private static void dueMend(int cell, int digit, Tried tried) {
        PlainPuzzle plain = tried.plain(MOST_TRIES);
        plain.answers(2);
        Check.due("the second answer comes by the try", plain.tries(), MOST_TRIES);
        Gridpuzzle puzzle = tried.drawn();
        Check.due("mend() by the try 20000", puzzle.mend(), cell);
        Check.due("digit(" + cell + ") behind it", puzzle.digit(cell), digit);
        puzzle.give(cell, 0);
        Boards.dueState("mend() gives no other digit", puzzle, Boards.state(tried.drawn()));
    }

    private static void mendBehindTheLastTry() {
        dueMendThrows("by the try 20001", three(digits(0, 0, 5), 0, 17, 9, 19, 17, 8));
        dueMendThrows("by the try 20001", four(digits(-1), 14, 21, 21, 19, 18, 0, 15, 18));
        dueMendThrows("of none in 20007", three(digits(), 12, 13, 6, 9, 12, 12));
        dueMendThrows("of one in 20007", three(digits(0, 5, 0, 0, 0, 0, 0, 0, 6), 0, 14, 18, 11, 15,
                18));
    }

    private static void dueMendThrows(String what, Tried tried) {
        Gridpuzzle puzzle = tried.drawn();
        Boards.dueThrown("mend() " + what, puzzle, puzzle::mend, Check.STATE);
    }

    private static void mendOfOneAnswer() {
        Tried[] all = {
            three(digits(0, 0, 0, -1), 18, 12, 18, 17, 12),
            three(digits(0, 0, 0, 0, 0, 0, 0, 5), 19, 12, 21, 19, 0, 11),
        };
        for (Tried tried : all) {
            Gridpuzzle puzzle = tried.drawn();
            String before = Boards.state(puzzle);
            Check.due("mend() of less than two in 19998 tries", puzzle.mend(), -1);
            Boards.dueState("mend() of less than two", puzzle, before);
        }
    }

    // ---- the told number of answers

    /** None to six answers, and each number that can be told. */
    private static void exactlySoMany() {
        // A row and a column share the cell 0, which has the digit a: the row makes the sum with
        // one digit, the column with another, both unlike a.
        dueSoMany(0, 2, 0);
        // a is 1, for the 2 would be twice in the column.
        dueSoMany(1, 3, 4);
        // a is 1 or 3, for the 2 would be twice in the row.
        dueSoMany(2, 4, 5);
        // a is 1, 2 or 3, for the 4 would be twice in the column.
        dueSoMany(3, 5, 8);
        // a is 1 to 4.
        dueSoMany(4, 5, 5);
        // a is 1 to 6, but for the 5, which would be twice in the column.
        dueSoMany(5, 7, 10);
        // a is 1 to 6.
        dueSoMany(6, 7, 0);
    }

    private static void dueSoMany(int answers, int rowSum, int columnSum) {
        Gridpuzzle puzzle = Boards.drawn(2, 0, 0, 0, -1);
        puzzle.setSum(0, rowSum);
        puzzle.setSum(1, columnSum);
        if (columnSum == 0) {
            // Without a sum the column takes all digits but a: one is given, beyond the row's.
            puzzle.give(4, 9);
        }
        for (int most = 1; most <= 5; most++) {
            Check.due("answers(" + most + ") of " + answers, puzzle.answers(most),
                    Math.min(most, answers));
        }
        Check.due("answersByAll() of " + answers, puzzle.answersByAll(), answers);
        Check.due("mend() of " + answers, puzzle.mend() >= 0, answers >= 2);
    }

    // ---- sums

    private static void leastAndGreatestSums() {
        int[] least = {3, 6, 10};
        int[] greatest = {17, 24, 30};
        int[] orders = {2, 6, 24};
        for (int length = 2; length <= 4; length++) {
            int lowest = (1 << length + 1) - 2;
            int highest = lowest << 9 - length;
            dueSum(length, 1, 0, 0);
            dueSum(length, least[length - 2] - 1, 0, 0);
            dueSum(length, least[length - 2], orders[length - 2], lowest);
            dueSum(length, greatest[length - 2], orders[length - 2], highest);
            dueSum(length, greatest[length - 2] + 1, 0, 0);
            dueSum(length, 45, 0, 0);
        }
    }

    /** A run alone, whose cells have the same candidates by the rules 2 and 3. */
    private static void dueSum(int length, int sum, int answers, int set) {
        Gridpuzzle puzzle = Boards.drawn(4);
        for (int cell = 0; cell < 16; cell++) {
            if (cell >= length) {
                puzzle.bar(cell);
            }
        }
        puzzle.setSum(0, sum);
        String of = " of " + length + " cells that make " + sum;
        Check.due("answersByAll()" + of, puzzle.answersByAll(), answers);
        for (int most = 1; most <= 5; most++) {
            Check.due("answers(" + most + ")" + of, puzzle.answers(most), Math.min(most, answers));
        }
        for (int cell = 0; cell < length; cell++) {
            Check.due("candidates(" + cell + ", 1)" + of, puzzle.candidates(cell, 1), 0x3FE);
            Check.due("candidates(" + cell + ", 2)" + of, puzzle.candidates(cell, 2), set);
            Check.due("candidates(" + cell + ", 3)" + of, puzzle.candidates(cell, 3), set);
        }
        Check.due("level()" + of, puzzle.level(), -1);
        Check.due("hint()" + of, puzzle.hint(), -1);
    }

    // ---- nothing to be tried

    private static void nothingToTry() {
        Gridpuzzle puzzle = Boards.withSums(Boards.drawn(2, 1, 2, 3, 1), 3, 4, 4, 3);
        dueGiven("right sums", puzzle, 1);
        for (int run = 0; run < 4; run++) {
            int right = puzzle.setSum(run, 45);
            dueGiven("a sum too great", puzzle, 0);
            puzzle.setSum(run, 1);
            dueGiven("a sum too small", puzzle, 0);
            puzzle.setSum(run, right + 1);
            dueGiven("a sum greater by one", puzzle, 0);
            puzzle.setSum(run, right - 1);
            dueGiven("a sum less by one", puzzle, 0);
            puzzle.setSum(run, 0);
            dueGiven("one sum less", puzzle, 1);
            puzzle.setSum(run, right);
        }
        puzzle.give(5, 2);
        dueGiven("twice in a column", puzzle, 0);
        puzzle.give(5, 3);
        dueGiven("twice in a row", puzzle, 0);
    }

    private static void dueGiven(String what, Gridpuzzle puzzle, int answers) {
        for (int most = 1; most <= 5; most++) {
            Check.due("all given, " + what + ": answers(" + most + ")", puzzle.answers(most),
                    answers);
        }
        Check.due("all given, " + what + ": answersByAll()", puzzle.answersByAll(), answers);
        Check.due("all given, " + what + ": mend()", puzzle.mend(), -1);
        Check.due("all given, " + what + ": level()", puzzle.level(), answers == 1 ? 0 : -1);
    }

    /** Trying that was given up, or ended with the told number, leaves nothing behind. */
    private static void goesOnBehindGivingUp() {
        Gridpuzzle puzzle = Boards.drawn(3, 3, 3);
        for (int time = 0; time < 3; time++) {
            Check.due("answers(5), given up", puzzle.answers(5), -1);
            Check.due("answers(1), given up", puzzle.answers(1), -1);
        }
        puzzle.give(1, 4);
        for (int time = 0; time < 3; time++) {
            Check.due("answers(5) behind it", puzzle.answers(5), 5);
            Check.due("answers(1) behind it", puzzle.answers(1), 1);
        }
        puzzle.begin(2);
        Check.due("answersByAll() behind it", puzzle.answersByAll(), 4104);
        Check.due("answers(5) of two rows", puzzle.answers(5), 5);
    }
}
