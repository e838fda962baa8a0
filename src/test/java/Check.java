import java.util.NoSuchElementException;

/** Counts the answers that are not as due; each test ends with finish(). */
final class Check {
    static final String NO_SUCH = "throws.NoSuchElementException";
    static final String ARGUMENT = "throws.IllegalArgumentException";
    static final String STATE = "throws.IllegalStateException";

    /** For each gate what comes of 0 0, 0 1, 1 0 and 1 1. */
    static final String[] TABLES = {"0001", "0111", "1110", "1000", "0110", "1001", "0010", "1011"};

    private static int wrong = 0;

    interface Call {
        Object run();
    }

    private Check() {
    }

    /** The answer as text; a call that throws answers with the exception's name. */
    static String answer(Call call) {
        try {
            return String.valueOf(call.run());
        } catch (NoSuchElementException | IllegalArgumentException | IllegalStateException e) {
            return "throws." + e.getClass().getSimpleName();
        }
    }

    static void due(String what, Object want, Call call) {
        same(what, want, answer(call));
    }

    static void same(String what, Object want, Object got) {
        if (!String.valueOf(want).equals(String.valueOf(got))) {
            wrong++;
            System.out.println(what + " answered " + got + ", due is " + want);
        }
    }

    static void finish() {
        System.out.println(wrong == 0 ? "all answers are as due" : wrong + " answers are not as due");
        if (wrong != 0) {
            System.exit(1);
        }
    }
}
