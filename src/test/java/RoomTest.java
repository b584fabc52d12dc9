import java.lang.management.ManagementFactory;

/** LANGUAGE.md, rule 12: the dearest calls make no objects, whatever the board. */
public final class RoomTest {
    private static final int CALLS = 512;

    public static void main(String[] args) {
        Gridpuzzle puzzle = Boards.drawn(4);
        Boards.withSums(puzzle, 10, 30, 10, 30, 11, 11, 11, 11);
        long kept = 0;
        // Once ahead, so that what the machine makes for itself at first is not counted.
        kept += allocatedBy(puzzle, 8);
        long bytes = allocatedBy(puzzle, CALLS);
        System.out.println("RoomTest: " + bytes + " bytes in " + CALLS + " calls, " + kept
                + " ahead of them");
        Check.due("the calls stay below 100 bytes each", bytes < 100L * CALLS, true);
        Check.end("RoomTest");
    }

    private static long allocatedBy(Gridpuzzle puzzle, int calls) {
        var counter = (com.sun.management.ThreadMXBean) ManagementFactory.getThreadMXBean();
        long id = Thread.currentThread().getId();
        long before = counter.getThreadAllocatedBytes(id);
        int total = 0;
        for (int call = 0; call < calls; call++) {
            total += callOnce(puzzle, call);
        }
        long after = counter.getThreadAllocatedBytes(id);
        Check.due("the calls answer", total != 0, true);
        return after - before;
    }

    private static int callOnce(Gridpuzzle puzzle, int call) {
        return switch (call % 8) {
            case 0 -> puzzle.answers(5);
            case 1 -> puzzle.level();
            case 2 -> puzzle.hint();
            case 3 -> puzzle.hintRules();
            case 4 -> puzzle.candidates(5, 3);
            case 5 -> puzzle.open() + puzzle.runs() + puzzle.firstOf(7) + puzzle.lengthOf(7);
            case 6 -> puzzle.give(call % 16, call % 10);
            default -> puzzle.setSum(call / 8 % 8, 10 + call % 20);
        };
    }
}
