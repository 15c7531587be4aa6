import java.util.NoSuchElementException;

/** Counts answers that are due and tells those that are not; a test's main method ends with end(). */
final class Check {
    static final Class<?> NO_INDEX = IndexOutOfBoundsException.class;
    static final Class<?> BAD_ARGUMENT = IllegalArgumentException.class;
    static final Class<?> BAD_STATE = IllegalStateException.class;
    static final Class<?> NO_ELEMENT = NoSuchElementException.class;
    static final Class<?> BAD_SUM = ArithmeticException.class;

    private static int right = 0;
    private static int wrong = 0;

    interface Call {
        Object answer();
    }

    private Check() {
    }

    static void same(String what, Object got, Object due) {
        if (due.equals(got)) {
            right++;
        } else {
            wrong++;
            System.out.println(what + " answered " + got + ", due is " + due);
        }
    }

    /** The exception's class must be the due one itself, not one below it. */
    static void refuses(String what, Class<?> due, Call call) {
        Object got;
        try {
            got = call.answer();
        } catch (RuntimeException thrown) {
            got = thrown.getClass();
        }
        same(what, got, due);
    }

    static void end(String name) {
        System.out.println(name + ": " + right + " as due, " + wrong + " not");
        if (wrong > 0 || right == 0) {
            System.exit(1);
        }
    }
}
