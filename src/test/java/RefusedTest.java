import java.util.ArrayList;
import java.util.List;

/** A call that throws an exception changes nothing: neither what is told nor what is asked then. */
public final class RefusedTest {
    /** A call of one object. */
    private interface OfPuzzle {
        long answer(Gridpuzzle puzzle);
    }

    private record Refused(String name, long exception, OfPuzzle call) {
    }

    private record Drawn(String name, OfBoard board) {
    }

    private interface OfBoard {
        Gridpuzzle draw();
    }

    public static void main(String[] args) {
        Drawn mended = new Drawn("a puzzle to mend", RefusedTest::toMend);
        Drawn given = new Drawn("a puzzle that is given up", RefusedTest::givenUp);
        Drawn twice = new Drawn("a full board with a digit twice", RefusedTest::twice);
        Check.due("answers(2) of " + mended.name(), toMend().answers(2), 2);
        Check.due("mend() of " + mended.name(), toMend().mend() >= 0, true);
        Check.due("answers(1) of " + given.name(), givenUp().answers(1), -1);
        for (Drawn drawn : List.of(mended, given, twice)) {
            for (Refused refused : ofAll()) {
                dueUnchanged(drawn, refused);
            }
        }
        dueUnchanged(mended, new Refused("press()", Check.STATE, Gridpuzzle::press));
        dueUnchanged(mended, new Refused("answersByAll()", Check.STATE, Gridpuzzle::answersByAll));
        dueUnchanged(given, new Refused("press()", Check.STATE, Gridpuzzle::press));
        dueUnchanged(given, new Refused("answersByAll()", Check.STATE, Gridpuzzle::answersByAll));
        dueUnchanged(given, new Refused("mend()", Check.STATE, Gridpuzzle::mend));
        dueUnchanged(twice, new Refused("press()", Check.STATE, Gridpuzzle::press));
        Check.end("RefusedTest");
    }

    /** Several answers, # 7 6 / 4 9 1 / 2 4 3 among them. */
    private static Gridpuzzle toMend() {
        return Boards.withSums(Boards.drawn(3, -1, 7), 13, 14, 0, 6, 20);
    }

    /** The first row has a digit twice, so that there is no answer among too many tries. */
    private static Gridpuzzle givenUp() {
        return Boards.withSums(Boards.drawn(3, 3, 3, 0, 0, 0, 0, 0, 0, -1), 0, 0, 9);
    }

    private static Gridpuzzle twice() {
        return Boards.withSums(Boards.drawn(3, 1, 2, 3, 2, 1, 3, 3, 4, -1), 6, 6, 7, 6, 7);
    }

    /** What is refused on each board of three rows whose first or last cell is barred. */
    private static List<Refused> ofAll() {
        List<Refused> all = new ArrayList<>();
        all.add(new Refused("begin(1)", Check.ARGUMENT, puzzle -> {
            puzzle.begin(1);
            return 0;
        }));
        all.add(new Refused("begin(5)", Check.ARGUMENT, puzzle -> {
            puzzle.begin(5);
            return 0;
        }));
        for (int cell : new int[] {-1, 3, 11, 12, 16}) {
            all.add(ofNone("bar(" + cell + ")", puzzle -> puzzle.bar(cell) ? 1 : 0));
            all.add(ofNone("barBoth(" + cell + ")", puzzle -> puzzle.barBoth(cell)));
            all.add(ofNone("give(" + cell + ", 5)", puzzle -> puzzle.give(cell, 5)));
            all.add(ofNone("give(" + cell + ", 0)", puzzle -> puzzle.give(cell, 0)));
            all.add(ofNone("digit(" + cell + ")", puzzle -> puzzle.digit(cell)));
            all.add(ofNone("candidates(" + cell + ", 3)", puzzle -> puzzle.candidates(cell, 3)));
        }
        all.add(ofNone("setSum(-1, 9)", puzzle -> puzzle.setSum(-1, 9)));
        all.add(ofNone("setSum(-1, 0)", puzzle -> puzzle.setSum(-1, 0)));
        all.add(ofNone("setSum() of the run behind the last", puzzle -> puzzle.setSum(6, 9)));
        all.add(ofNone("firstOf(-1)", puzzle -> puzzle.firstOf(-1)));
        all.add(ofNone("firstOf(6)", puzzle -> puzzle.firstOf(6)));
        all.add(ofNone("lengthOf(-1)", puzzle -> puzzle.lengthOf(-1)));
        all.add(ofNone("lengthOf(6)", puzzle -> puzzle.lengthOf(6)));
        all.add(ofNone("sumOf(-1)", puzzle -> puzzle.sumOf(-1)));
        all.add(ofNone("sumOf(6)", puzzle -> puzzle.sumOf(6)));
        for (int wrong : new int[] {Integer.MIN_VALUE, -1, 46, Integer.MAX_VALUE}) {
            all.add(ofWrong("give(1, " + wrong + ")", puzzle -> puzzle.give(1, wrong)));
            all.add(ofWrong("setSum(0, " + wrong + ")", puzzle -> puzzle.setSum(0, wrong)));
            all.add(ofWrong("answers(" + wrong + ")", puzzle -> puzzle.answers(wrong)));
            all.add(ofWrong("candidates(1, " + wrong + ")",
                    puzzle -> puzzle.candidates(1, wrong)));
        }
        all.add(ofWrong("give(1, 10)", puzzle -> puzzle.give(1, 10)));
        all.add(ofWrong("answers(0)", puzzle -> puzzle.answers(0)));
        all.add(ofWrong("answers(6)", puzzle -> puzzle.answers(6)));
        all.add(ofWrong("candidates(1, 4)", puzzle -> puzzle.candidates(1, 4)));
        all.add(new Refused("give() of a barred cell", Check.STATE,
                puzzle -> puzzle.give(barredOf(puzzle), 5)));
        all.add(new Refused("give() of none to a barred cell", Check.STATE,
                puzzle -> puzzle.give(barredOf(puzzle), 0)));
        return all;
    }

    private static Refused ofNone(String name, OfPuzzle call) {
        return new Refused(name, Check.CELL_OR_RUN, call);
    }

    private static Refused ofWrong(String name, OfPuzzle call) {
        return new Refused(name, Check.ARGUMENT, call);
    }

    private static int barredOf(Gridpuzzle puzzle) {
        return puzzle.digit(0) == -1 ? 0 : 10;
    }

    /** One board is asked behind the refused call, and another one like it without the call. */
    private static void dueUnchanged(Drawn drawn, Refused refused) {
        String what = refused.name() + " on " + drawn.name();
        Gridpuzzle puzzle = drawn.board().draw();
        Gridpuzzle other = drawn.board().draw();
        for (int time = 0; time < 3; time++) {
            Check.due(what, () -> refused.call().answer(puzzle), refused.exception());
        }
        String want = asked(other);
        String got = asked(puzzle);
        if (!got.equals(want)) {
            System.out.println(what + ": asked behind it\n  " + got + "\ndue is\n  " + want);
        }
        Check.due(what + " changes nothing", got.equals(want), true);
    }

    /** All that can be asked, and then what mend(), press(), bar() and barBoth() make of it. */
    private static String asked(Gridpuzzle puzzle) {
        StringBuilder told = new StringBuilder(Boards.state(puzzle));
        for (int most = 1; most <= 5; most++) {
            told.append(" ").append(puzzle.answers(most));
        }
        told.append(" ").append(Check.told(Check.answerOf(puzzle::answersByAll)));
        told.append(" ").append(puzzle.level()).append(" ").append(puzzle.hint());
        told.append(" ").append(puzzle.hintRules());
        for (int cell = 0; cell < 12; cell++) {
            for (int last = 0; last <= 3; last++) {
                int asked = cell;
                int by = last;
                told.append(" ").append(Check.told(Check.answerOf(
                        () -> puzzle.candidates(asked, by))));
            }
        }
        told.append(" ").append(Check.told(Check.answerOf(puzzle::mend)));
        told.append(" ").append(Boards.state(puzzle));
        told.append(" ").append(Check.told(Check.answerOf(puzzle::press)));
        told.append(" ").append(Boards.state(puzzle));
        told.append(" ").append(puzzle.bar(2)).append(" ").append(puzzle.barBoth(4));
        told.append(" ").append(Boards.state(puzzle));
        return told.toString();
    }
}
