/** Counts and prints what is not due, in the tests of one program. */
final class Check {
    /** A call of the face, made when its answer is asked. */
    interface Call {
        long answer();
    }

    /** What is due of a call that throws this very exception; no answer is so small. */
    static final long CELL_OR_RUN = Long.MIN_VALUE;
    static final long ARGUMENT = Long.MIN_VALUE + 1;
    static final long STATE = Long.MIN_VALUE + 2;
    private static final long OTHER = Long.MIN_VALUE + 3;

    // Far above what the longest test needs: a call that does not end has to fail, not to hang.
    private static final long MOST_MILLIS = 300_000;

    private static long made = 0;
    private static long wrong = 0;

    static {
        Thread guard = new Thread(Check::endWhenTooLong);
        guard.setDaemon(true);
        guard.start();
    }

    private Check() {
    }

    static void due(String what, Call call, long want) {
        due(what, answerOf(call), want);
    }

    static void due(String what, boolean got, boolean want) {
        due(what, got ? 1L : 0L, want ? 1L : 0L);
    }

    static void due(String what, long got, long want) {
        made++;
        if (got != want) {
            wrong++;
            System.out.println(what + " answered " + told(got) + ", due is " + told(want));
        }
    }

    /** The answer of a call, or the number of the exception that it throws. */
    static long answerOf(Call call) {
        try {
            return call.answer();
        } catch (RuntimeException e) {
            return numberOf(e);
        }
    }

    private static long numberOf(RuntimeException thrown) {
        // The very classes: what the machine throws is of a class below them.
        if (thrown.getClass() == IndexOutOfBoundsException.class) {
            return CELL_OR_RUN;
        }
        if (thrown.getClass() == IllegalArgumentException.class) {
            return ARGUMENT;
        }
        if (thrown.getClass() == IllegalStateException.class) {
            return STATE;
        }
        System.out.println("thrown is " + thrown);
        return OTHER;
    }

    static String told(long answer) {
        if (answer == CELL_OR_RUN) {
            return "throws.IndexOutOfBoundsException";
        }
        if (answer == ARGUMENT) {
            return "throws.IllegalArgumentException";
        }
        if (answer == STATE) {
            return "throws.IllegalStateException";
        }
        return answer == OTHER ? "throws.another" : Long.toString(answer);
    }

    private static void endWhenTooLong() {
        try {
            Thread.sleep(MOST_MILLIS);
        } catch (InterruptedException e) {
            return;
        }
        System.out.println("a call does not end");
        Runtime.getRuntime().halt(1);
    }

    static boolean anyWrong() {
        return wrong != 0;
    }

    /** Ends a test program: with the exit code 1 if something was wrong. */
    static void end(String test) {
        System.out.println(test + ": " + made + " answers, " + wrong + " not as due");
        if (wrong != 0 || made == 0) {
            System.exit(1);
        }
    }
}
