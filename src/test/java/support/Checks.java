import java.util.Arrays;

/** Counts the answers of a test, prints each that is not as due, and ends the test. */
final class Checks {
    interface Answer {
        long get();
    }

    interface Act {
        void run();
    }

    static final Class<? extends Throwable> ARGUMENT = IllegalArgumentException.class;
    static final Class<? extends Throwable> STATE = IllegalStateException.class;
    static final Class<? extends Throwable> BOUNDS = IndexOutOfBoundsException.class;
    static final Class<? extends Throwable> UNSUPPORTED = UnsupportedOperationException.class;

    private int count;
    private int wrong;

    /** The answer, or the name of the very class that is thrown: the Java machine throws subclasses. */
    static String outcome(Answer answer) {
        try {
            return Long.toString(answer.get());
        } catch (Throwable thrown) {
            return thrown.getClass().getName();
        }
    }

    void due(String call, long due, Answer answer) {
        same(call, outcome(answer), Long.toString(due));
    }

    void refused(String call, Class<? extends Throwable> due, Act act) {
        String got = outcome(() -> {
            act.run();
            return 0;
        });
        same(call, got, due.getName());
    }

    void row(String what, int[] got, int... due) {
        same(what, Arrays.toString(got), Arrays.toString(due));
    }

    void same(String what, String got, String due) {
        count++;
        if (!got.equals(due)) {
            wrong++;
            System.out.println(what + ": got " + got + ", due is " + due);
        }
    }

    void end() {
        System.out.println(count + " answers, " + wrong + " of them wrong");
        if (count == 0 || wrong != 0) {
            System.exit(1);
        }
    }
}
