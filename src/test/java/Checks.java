/** Counts the answers of a test that are not as due, and prints them. */
final class Checks {
    private int made = 0;
    private int wrong = 0;

    void is(String what, long got, long want) {
        made++;
        if (got != want) {
            fail(what + " answered " + got + ", due is " + want);
        }
    }

    void is(String what, boolean got, boolean want) {
        is(what, got ? 1 : 0, want ? 1 : 0);
    }

    void is(String what, String got, String want) {
        made++;
        if (!got.equals(want)) {
            fail(what + " answered " + got + ", due is " + want);
        }
    }

    void illegalArgument(String what, Runnable call) {
        is(what, thrownBy(call), "IllegalArgumentException");
    }

    void illegalState(String what, Runnable call) {
        is(what, thrownBy(call), "IllegalStateException");
    }

    /** Ends the program, with exit code 1 if an answer was wrong. */
    void end(String test) {
        System.out.println(test + ": " + made + " checks, " + wrong + " wrong");
        if (wrong != 0 || made == 0) {
            System.exit(1);
        }
    }

    private static String thrownBy(Runnable call) {
        try {
            call.run();
            return "nothing";
        } catch (RuntimeException thrown) {
            return thrown.getClass().getSimpleName();
        }
    }

    private void fail(String text) {
        wrong++;
        if (wrong <= 40) {
            System.out.println(text);
        }
    }
}
