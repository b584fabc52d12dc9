import java.util.ArrayList;
import java.util.List;
import java.util.Random;

/**
 * Runs of calls from fixed seeds, on Gridpuzzle and on PlainPuzzle side by side: each answer,
 * each exception and the state behind it have to be the same.
 */
public final class ModelTest {
    private static final int RUNS = 300;
    private static final int CALLS = 512;
    private static final int[] ODD_NUMBERS = {
        Integer.MIN_VALUE, Integer.MIN_VALUE + 1, -16, -5, -1, 16, 17, 20, 45, 46, 1 << 20,
        Integer.MAX_VALUE - 1, Integer.MAX_VALUE
    };

    private final Gridpuzzle puzzle = new Gridpuzzle();
    private final PlainPuzzle plain = new PlainPuzzle();
    private final Random random;
    private final String name;
    private int callsMade = 0;
    private int size = 3;

    private ModelTest(int seed) {
        random = new Random(seed);
        name = "run of the seed " + seed;
    }

    public static void main(String[] args) {
        for (int seed = 0; seed < RUNS && !Check.anyWrong(); seed++) {
            new ModelTest(seed).play();
        }
        Check.end("ModelTest");
    }

    private void play() {
        while (callsMade < CALLS && !Check.anyWrong()) {
            switch (random.nextInt(12)) {
                case 0 -> beginAndBar();
                case 1, 2, 3 -> fillAndPress();
                case 4 -> disturbSums();
                case 5 -> mendOnce();
                case 6 -> disturbDigits();
                case 7 -> askOddly();
                case 8 -> fillAlmostAll();
                case 9 -> askBoard();
                case 10 -> dropSums();
                default -> askAll();
            }
        }
    }

    private long same(String call, Check.Call ofPuzzle, Check.Call ofPlain) {
        long want = Check.answerOf(ofPlain);
        if (callsMade < CALLS) {
            callsMade++;
            Check.due(name + ", call " + callsMade + ": " + call, ofPuzzle, want);
        }
        return want;
    }

    // ---- the calls

    private void begin(int newSize) {
        if (same("begin(" + newSize + ")", () -> {
            puzzle.begin(newSize);
            return 0;
        }, () -> plain.begin(newSize)) == 0) {
            size = newSize;
        }
    }

    private void bar(int cell) {
        same("bar(" + cell + ")", () -> puzzle.bar(cell) ? 1 : 0, () -> plain.bar(cell) ? 1 : 0);
    }

    private void barBoth(int cell) {
        same("barBoth(" + cell + ")", () -> puzzle.barBoth(cell), () -> plain.barBoth(cell));
    }

    private void give(int cell, int digit) {
        same("give(" + cell + ", " + digit + ")", () -> puzzle.give(cell, digit),
                () -> plain.give(cell, digit));
    }

    private void setSum(int run, int sum) {
        same("setSum(" + run + ", " + sum + ")", () -> puzzle.setSum(run, sum),
                () -> plain.setSum(run, sum));
    }

    private void press() {
        same("press()", puzzle::press, plain::press);
    }

    private void askRun(int run) {
        same("firstOf(" + run + ")", () -> puzzle.firstOf(run), () -> plain.firstOf(run));
        same("lengthOf(" + run + ")", () -> puzzle.lengthOf(run), () -> plain.lengthOf(run));
        same("sumOf(" + run + ")", () -> puzzle.sumOf(run), () -> plain.sumOf(run));
    }

    private void askDigit(int cell) {
        same("digit(" + cell + ")", () -> puzzle.digit(cell), () -> plain.digit(cell));
    }

    private void answers(int most) {
        same("answers(" + most + ")", () -> puzzle.answers(most), () -> plain.answers(most));
    }

    private long answersByAll() {
        return same("answersByAll()", puzzle::answersByAll, plain::answersByAll);
    }

    private long mend() {
        return same("mend()", puzzle::mend, plain::mend);
    }

    private void askRules() {
        same("level()", puzzle::level, plain::level);
        same("hint()", puzzle::hint, plain::hint);
        same("hintRules()", puzzle::hintRules, plain::hintRules);
    }

    private void candidates(int cell, int last) {
        same("candidates(" + cell + ", " + last + ")", () -> puzzle.candidates(cell, last),
                () -> plain.candidates(cell, last));
    }

    // ---- what is done with them

    private int anyCell() {
        return 4 * random.nextInt(size) + random.nextInt(size);
    }

    private void beginAndBar() {
        begin(2 + random.nextInt(3));
        int bars = random.nextInt(size + 1);
        for (int i = 0; i < bars; i++) {
            if (random.nextBoolean()) {
                bar(anyCell());
            } else {
                barBoth(anyCell());
            }
        }
    }

    private List<Integer> openCells() {
        List<Integer> cells = new ArrayList<>();
        for (int row = 0; row < size; row++) {
            for (int column = 0; column < size; column++) {
                if (plain.digit(4 * row + column) != -1) {
                    cells.add(4 * row + column);
                }
            }
        }
        return cells;
    }

    private void fill(int most) {
        for (int cell : openCells()) {
            give(cell, 0);
        }
        int given = 0;
        for (int cell : openCells()) {
            if (given < most) {
                give(cell, lawfulDigit(cell));
                given++;
            }
        }
    }

    /** A digit that no cell of the row or column has, bars or not. */
    private int lawfulDigit(int cell) {
        int digit = 1 + random.nextInt(9);
        for (int i = 0; i < 9; i++) {
            boolean lawful = true;
            for (int other : openCells()) {
                boolean inLine = other / 4 == cell / 4 || other % 4 == cell % 4;
                lawful &= !inLine || plain.digit(other) != digit;
            }
            if (lawful) {
                return digit;
            }
            digit = digit % 9 + 1;
        }
        return digit;
    }

    private void fillAndPress() {
        fill(16);
        List<Integer> digits = new ArrayList<>();
        List<Integer> cells = openCells();
        for (int cell : cells) {
            digits.add(plain.digit(cell));
        }
        press();
        answers(2);
        askRules();
        int back = random.nextInt(4);
        for (int i = 0; i < cells.size() && i < back; i++) {
            int which = random.nextInt(cells.size());
            give(cells.get(which), digits.get(which));
        }
        askRules();
        candidates(anyCell(), random.nextInt(4));
        mendOnce();
    }

    private void fillAlmostAll() {
        fill(openCells().size() - random.nextInt(6));
        answersByAll();
        answers(1 + random.nextInt(5));
        askRules();
        mend();
        press();
    }

    private void mendOnce() {
        if (mend() >= 0) {
            answers(1 + random.nextInt(5));
            askRules();
        }
        answersByAll();
    }

    private void disturbSums() {
        int runs = plain.runs();
        for (int i = 0; i < runs; i++) {
            if (random.nextInt(3) == 0) {
                int near = plain.sumOf(i) + random.nextInt(5) - 2;
                setSum(i, random.nextInt(4) == 0 ? random.nextInt(46) : near);
            }
        }
        askAll();
    }

    private void dropSums() {
        int runs = plain.runs();
        for (int i = 0; i < runs; i++) {
            if (random.nextInt(3) == 0) {
                setSum(i, 0);
            }
        }
        askAll();
    }

    private void disturbDigits() {
        give(anyCell(), random.nextInt(10));
        give(anyCell(), random.nextInt(10));
        press();
        answersByAll();
        askAll();
    }

    private void askAll() {
        int last = random.nextInt(4);
        for (int cell : openCells()) {
            candidates(cell, last);
        }
        answers(1 + random.nextInt(5));
        askRules();
    }

    private void askBoard() {
        same("open()", puzzle::open, plain::open);
        same("runs()", puzzle::runs, plain::runs);
        int runs = plain.runs();
        for (int run = -1; run <= runs; run++) {
            askRun(run);
        }
        for (int cell = -1; cell <= 16; cell++) {
            askDigit(cell);
        }
    }

    private int oddNumber() {
        int which = random.nextInt(3 * ODD_NUMBERS.length);
        return which < ODD_NUMBERS.length ? ODD_NUMBERS[which] : random.nextInt(20) - 2;
    }

    private void askOddly() {
        switch (random.nextInt(8)) {
            case 0 -> begin(oddNumber());
            case 1 -> bar(oddNumber());
            case 2 -> barBoth(oddNumber());
            case 3 -> give(oddNumber(), oddNumber());
            case 4 -> setSum(oddNumber(), oddNumber());
            case 5 -> answers(oddNumber());
            case 6 -> candidates(oddNumber(), oddNumber());
            default -> {
                askRun(oddNumber());
                askDigit(oddNumber());
            }
        }
        press();
    }
}
