import java.util.ArrayList;
import java.util.Arrays;
import java.util.HashSet;
import java.util.List;
import java.util.Set;
import java.util.TreeMap;
import java.util.TreeSet;

/**
 * The document once more, word by word and without a thought of speed: written apart from
 * Gridpuzzle (maps, sets and recursion in place of rows), so that ModelTest can compare the two.
 */
final class PlainPuzzle {
    private static final int NONE = -1;

    private record Run(List<Integer> cells) {
    }

    private static final class EnoughFound extends RuntimeException {
        private static final long serialVersionUID = 1L;
    }

    private static final class GivenUp extends RuntimeException {
        private static final long serialVersionUID = 1L;
    }

    private int size;
    private Set<Integer> barred = new TreeSet<>();
    private TreeMap<Integer, Integer> given = new TreeMap<>();
    private TreeMap<Integer, Integer> sums = new TreeMap<>();

    private int mostTries = 20000;
    private int tries;
    private List<TreeMap<Integer, Integer>> answersFound = new ArrayList<>();
    private TreeMap<Integer, TreeSet<Integer>> sets = new TreeMap<>();
    private int level;

    PlainPuzzle() {
        begin(3);
    }

    int begin(int newSize) {
        if (newSize < 2 || newSize > 4) {
            throw new IllegalArgumentException();
        }
        size = newSize;
        barred.clear();
        given.clear();
        sums.clear();
        return 0;
    }

    boolean bar(int cell) {
        cellOrThrow(cell);
        turn(cell);
        return barred.contains(cell);
    }

    int barBoth(int cell) {
        cellOrThrow(cell);
        Set<Integer> both = new HashSet<>();
        both.add(cell);
        List<Integer> cells = boardCells();
        // Turned by a half, the first cell of the board comes to the last one's place, and so on.
        both.add(cells.get(cells.size() - 1 - cells.indexOf(cell)));
        for (int each : both) {
            turn(each);
        }
        return barred.size();
    }

    private void turn(int cell) {
        given.remove(cell);
        sums.clear();
        if (!barred.remove(cell)) {
            barred.add(cell);
        }
    }

    int give(int cell, int digit) {
        cellOrThrow(cell);
        if (digit < 0 || digit > 9) {
            throw new IllegalArgumentException();
        }
        if (barred.contains(cell)) {
            throw new IllegalStateException();
        }
        Integer before = digit == 0 ? given.remove(cell) : given.put(cell, digit);
        return before == null ? 0 : before;
    }

    int setSum(int run, int sum) {
        runOrThrow(run);
        if (sum < 0 || sum > 45) {
            throw new IllegalArgumentException();
        }
        Integer before = sum == 0 ? sums.remove(run) : sums.put(run, sum);
        return before == null ? 0 : before;
    }

    int press() {
        List<Run> runs = allRuns();
        TreeMap<Integer, Integer> made = new TreeMap<>();
        if (!given.keySet().equals(new TreeSet<>(openCells()))) {
            throw new IllegalStateException();
        }
        for (int i = 0; i < runs.size(); i++) {
            List<Integer> digits = digitsOf(runs.get(i), given);
            if (new HashSet<>(digits).size() != digits.size()) {
                throw new IllegalStateException();
            }
            made.put(i, total(digits));
        }
        sums = made;
        given.clear();
        return runs.size();
    }

    int open() {
        return openCells().size();
    }

    int runs() {
        return allRuns().size();
    }

    int firstOf(int run) {
        return runOrThrow(run).cells().get(0);
    }

    int lengthOf(int run) {
        return runOrThrow(run).cells().size();
    }

    int sumOf(int run) {
        runOrThrow(run);
        return sums.getOrDefault(run, 0);
    }

    int digit(int cell) {
        cellOrThrow(cell);
        return barred.contains(cell) ? NONE : given.getOrDefault(cell, 0);
    }

    int answers(int most) {
        if (most < 1 || most > 5) {
            throw new IllegalArgumentException();
        }
        return find(most) ? answersFound.size() : NONE;
    }

    int answersByAll() {
        List<Integer> blanks = blankCells();
        if (blanks.size() > 4) {
            throw new IllegalStateException();
        }
        return countBelow(blanks, 0, new TreeMap<>(given));
    }

    private int countBelow(List<Integer> blanks, int place, TreeMap<Integer, Integer> filling) {
        if (place == blanks.size()) {
            return isAnswer(filling) ? 1 : 0;
        }
        int count = 0;
        for (int digit = 1; digit <= 9; digit++) {
            filling.put(blanks.get(place), digit);
            count += countBelow(blanks, place + 1, filling);
        }
        return count;
    }

    int mend() {
        if (!find(2)) {
            throw new IllegalStateException();
        }
        if (answersFound.size() < 2) {
            return NONE;
        }
        for (int cell : openCells()) {
            int first = answersFound.get(0).get(cell);
            if (first != answersFound.get(1).get(cell)) {
                given.put(cell, first);
                return cell;
            }
        }
        throw new AssertionError("two answers that are the same");
    }

    int level() {
        solve(3);
        for (int cell : openCells()) {
            if (sets.get(cell).size() != 1) {
                return NONE;
            }
        }
        return level;
    }

    int candidates(int cell, int last) {
        cellOrThrow(cell);
        if (last < 0 || last > 3) {
            throw new IllegalArgumentException();
        }
        solve(last);
        int bits = 0;
        if (!barred.contains(cell)) {
            for (int digit : sets.get(cell)) {
                bits += 1 << digit;
            }
        }
        return bits;
    }

    int hint() {
        for (int last = 0; last <= 3; last++) {
            int cell = hintBy(last);
            if (cell != NONE) {
                return cell;
            }
        }
        return NONE;
    }

    int hintRules() {
        for (int last = 0; last <= 3; last++) {
            if (hintBy(last) != NONE) {
                return last;
            }
        }
        return NONE;
    }

    private int hintBy(int last) {
        solve(last);
        for (int cell : blankCells()) {
            if (sets.get(cell).size() == 1) {
                return cell;
            }
        }
        return NONE;
    }

    /** Has trying given up behind another number of tries than the document's. */
    void allowTries(int most) {
        mostTries = most;
    }

    /** How many tries the last search made. */
    int tries() {
        return tries;
    }

    // ---- the board

    private List<Integer> boardCells() {
        List<Integer> cells = new ArrayList<>();
        for (int row = 0; row < size; row++) {
            for (int column = 0; column < size; column++) {
                cells.add(4 * row + column);
            }
        }
        return cells;
    }

    private List<Integer> openCells() {
        List<Integer> cells = boardCells();
        cells.removeAll(barred);
        return cells;
    }

    private List<Integer> blankCells() {
        List<Integer> cells = openCells();
        cells.removeAll(given.keySet());
        return cells;
    }

    private void cellOrThrow(int cell) {
        if (!boardCells().contains(cell)) {
            throw new IndexOutOfBoundsException();
        }
    }

    private Run runOrThrow(int run) {
        List<Run> runs = allRuns();
        if (run < 0 || run >= runs.size()) {
            throw new IndexOutOfBoundsException();
        }
        return runs.get(run);
    }

    private List<Run> allRuns() {
        List<Run> runs = new ArrayList<>();
        for (int direction = 0; direction < 2; direction++) {
            for (int line = 0; line < size; line++) {
                List<Integer> side = new ArrayList<>();
                for (int place = 0; place < size; place++) {
                    int cell = direction == 0 ? 4 * line + place : 4 * place + line;
                    if (barred.contains(cell)) {
                        runs.add(new Run(side));
                        side = new ArrayList<>();
                    } else {
                        side.add(cell);
                    }
                }
                runs.add(new Run(side));
            }
        }
        runs.removeIf(run -> run.cells().size() < 2);
        return runs;
    }

    private static List<Integer> digitsOf(Run run, TreeMap<Integer, Integer> filling) {
        List<Integer> digits = new ArrayList<>();
        for (int cell : run.cells()) {
            if (filling.containsKey(cell)) {
                digits.add(filling.get(cell));
            }
        }
        return digits;
    }

    private static int total(Iterable<Integer> digits) {
        int total = 0;
        for (int digit : digits) {
            total += digit;
        }
        return total;
    }

    private boolean isAnswer(TreeMap<Integer, Integer> filling) {
        List<Run> runs = allRuns();
        for (int i = 0; i < runs.size(); i++) {
            List<Integer> digits = digitsOf(runs.get(i), filling);
            if (new HashSet<>(digits).size() != digits.size()) {
                return false;
            }
            if (sums.containsKey(i) && total(digits) != sums.get(i)) {
                return false;
            }
        }
        return true;
    }

    // ---- trying

    /** False if it was given up; the answers stand in answersFound. */
    private boolean find(int most) {
        tries = 0;
        answersFound = new ArrayList<>();
        try {
            tryFrom(blankCells(), 0, new TreeMap<>(given), most, allRuns());
        } catch (EnoughFound e) {
            return true;
        } catch (GivenUp e) {
            return false;
        }
        return true;
    }

    private void tryFrom(List<Integer> blanks, int place, TreeMap<Integer, Integer> filling,
            int most, List<Run> runs) {
        if (place == blanks.size()) {
            if (isAnswer(filling)) {
                answersFound.add(new TreeMap<>(filling));
                if (answersFound.size() == most) {
                    throw new EnoughFound();
                }
            }
            return;
        }
        int cell = blanks.get(place);
        for (int digit = 1; digit <= 9; digit++) {
            if (tries == mostTries) {
                throw new GivenUp();
            }
            tries++;
            if (isGood(cell, digit, filling, runs)) {
                filling.put(cell, digit);
                tryFrom(blanks, place + 1, filling, most, runs);
                filling.remove(cell);
            }
        }
    }

    private boolean isGood(int cell, int digit, TreeMap<Integer, Integer> filling,
            List<Run> runs) {
        for (int i = 0; i < runs.size(); i++) {
            Run run = runs.get(i);
            if (!run.cells().contains(cell)) {
                continue;
            }
            List<Integer> digits = digitsOf(run, filling);
            if (digits.contains(digit)) {
                return false;
            }
            digits.add(digit);
            if (sums.containsKey(i)) {
                if (total(digits) > sums.get(i)) {
                    return false;
                }
                if (digits.size() == run.cells().size() && total(digits) != sums.get(i)) {
                    return false;
                }
            }
        }
        return true;
    }

    // ---- rules

    private void solve(int last) {
        level = 0;
        sets = new TreeMap<>();
        for (int cell : openCells()) {
            List<Integer> first = given.containsKey(cell)
                    ? List.of(given.get(cell)) : Arrays.asList(1, 2, 3, 4, 5, 6, 7, 8, 9);
            sets.put(cell, new TreeSet<>(first));
        }
        int rule = 1;
        while (rule <= last) {
            String before = sets.toString();
            goThrough(rule);
            boolean took = !sets.toString().equals(before);
            if (took && rule > level) {
                level = rule;
            }
            for (TreeSet<Integer> set : sets.values()) {
                if (set.isEmpty()) {
                    return;
                }
            }
            rule = took ? 1 : rule + 1;
        }
    }

    private void goThrough(int rule) {
        List<Run> runs = allRuns();
        for (int i = 0; i < runs.size(); i++) {
            Run run = runs.get(i);
            if (rule == 1) {
                ruleOne(run);
            } else if (sums.containsKey(i) && rule == 2) {
                ruleTwo(run, sums.get(i));
            } else if (sums.containsKey(i)) {
                ruleThree(run, sums.get(i));
            }
        }
    }

    private void ruleOne(Run run) {
        for (int cell : run.cells()) {
            if (sets.get(cell).size() == 1) {
                int digit = sets.get(cell).first();
                for (int other : run.cells()) {
                    if (other != cell) {
                        sets.get(other).remove(digit);
                    }
                }
            }
        }
    }

    private void ruleTwo(Run run, int sum) {
        Set<Integer> singles = new HashSet<>();
        for (int cell : run.cells()) {
            if (sets.get(cell).size() == 1) {
                singles.addAll(sets.get(cell));
            }
        }
        Set<Integer> stay = new HashSet<>();
        collectSets(run.cells().size(), sum, 1, new TreeSet<>(), singles, stay);
        for (int cell : run.cells()) {
            sets.get(cell).retainAll(stay);
        }
    }

    private static void collectSets(int more, int sum, int least, TreeSet<Integer> chosen,
            Set<Integer> singles, Set<Integer> stay) {
        if (more == 0) {
            if (total(chosen) == sum && chosen.containsAll(singles)) {
                stay.addAll(chosen);
            }
            return;
        }
        for (int digit = least; digit <= 9; digit++) {
            chosen.add(digit);
            collectSets(more - 1, sum, digit + 1, chosen, singles, stay);
            chosen.remove(digit);
        }
    }

    private void ruleThree(Run run, int sum) {
        for (int cell : run.cells()) {
            for (int digit : new ArrayList<>(sets.get(cell))) {
                if (!canBeGiven(run, 0, new ArrayList<>(), sum, cell, digit)) {
                    sets.get(cell).remove(digit);
                }
            }
        }
    }

    private boolean canBeGiven(Run run, int place, List<Integer> digits, int sum,
            int fixedCell, int fixedDigit) {
        if (place == run.cells().size()) {
            return total(digits) == sum;
        }
        int cell = run.cells().get(place);
        for (int digit : sets.get(cell)) {
            if (digits.contains(digit) || cell == fixedCell && digit != fixedDigit) {
                continue;
            }
            digits.add(digit);
            boolean can = canBeGiven(run, place + 1, digits, sum, fixedCell, fixedDigit);
            digits.remove(digits.size() - 1);
            if (can) {
                return true;
            }
        }
        return false;
    }
}
