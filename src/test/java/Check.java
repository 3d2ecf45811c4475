import java.util.Objects;

/** Counts what is not as due, and ends a test program with exit code 1 if anything was not. */
final class Check {
    private static int looked = 0;
    private static int wrong = 0;

    private Check() {
    }

    interface Call {
        Object answer();
    }

    interface Step {
        void run();
    }

    static Call silent(Step step) {
        return () -> {
            step.run();
            return "nothing";
        };
    }

    /** The answer as a text, or throws.Name for an exception. */
    static String outcome(Call call) {
        try {
            return String.valueOf(call.answer());
        } catch (RuntimeException e) {
            return "throws." + e.getClass().getSimpleName();
        }
    }

    static void equal(String what, Object got, Object due) {
        looked++;
        if (!Objects.equals(String.valueOf(got), String.valueOf(due))) {
            wrong++;
            if (wrong <= 30) {
                System.out.println(what + " is " + got + ", due is " + due);
            }
        }
    }

    static void isTrue(String what, boolean got) {
        equal(what, got, true);
    }

    static void isFalse(String what, boolean got) {
        equal(what, got, false);
    }

    static void illegalArgument(String what, Step step) {
        equal(what, outcome(silent(step)), "throws.IllegalArgumentException");
    }

    static void illegalState(String what, Step step) {
        equal(what, outcome(silent(step)), "throws.IllegalStateException");
    }

    static void noRoom(String what, Step step) {
        equal(what, outcome(silent(step)), "throws.UnsupportedOperationException");
    }

    static void outOfBounds(String what, Step step) {
        equal(what, outcome(silent(step)), "throws.IndexOutOfBoundsException");
    }

    static void end() {
        System.out.println(looked + " looked at, " + wrong + " not as due");
        if (wrong != 0 || looked == 0) {
            System.exit(1);
        }
    }
}
