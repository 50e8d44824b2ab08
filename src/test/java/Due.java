/** Counts the answers that are not as due, and ends a test by its exit code. */
final class Due {
    static final int ILLEGAL_ARGUMENT = 1;
    static final int ILLEGAL_STATE = 2;
    static final int OUT_OF_BOUNDS = 3;

    interface Call {
        long answer();
    }

    private static int wrong = 0;
    private static String within = "";

    private Due() {
    }

    /** Names the case that the next answers belong to. */
    static void within(String name) {
        within = name + ": ";
    }

    static void is(String what, long got, long want) {
        if (got != want) {
            wrong++;
            System.out.println(within + what + " answered " + got + ", due is " + want);
        }
    }

    static void yes(String what, boolean got) {
        is(what, got ? 1 : 0, 1);
    }

    static void no(String what, boolean got) {
        is(what, got ? 1 : 0, 0);
    }

    /** The exact class counts: a subclass, or another exception, is wrong. */
    static void fails(String what, Call call, int want) {
        is(what + " throws", thrownBy(call), want);
    }

    static int thrownBy(Call call) {
        try {
            call.answer();
            return 0;
        } catch (RuntimeException e) {
            return numberOf(e);
        }
    }

    static int numberOf(RuntimeException e) {
        if (e.getClass() == IllegalArgumentException.class) {
            return ILLEGAL_ARGUMENT;
        }
        if (e.getClass() == IllegalStateException.class) {
            return ILLEGAL_STATE;
        }
        if (e.getClass() == IndexOutOfBoundsException.class) {
            return OUT_OF_BOUNDS;
        }
        return 9;
    }

    static void end() {
        if (wrong != 0) {
            System.out.println(wrong + " answers are not as due");
            System.exit(1);
        }
    }
}
