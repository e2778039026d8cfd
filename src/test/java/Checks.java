import java.util.function.Consumer;
import java.util.function.IntConsumer;
import java.util.function.Supplier;

/** Counts the answers of a test that are not as due, and prints them. */
final class Checks {
    private int made = 0;
    private int wrong = 0;

    void is(String what, long got, long want) {
        made++;
        if (got != want) {
            fail(what + " answered " + got + ", due is " + want);
        }
    }

    void is(String what, boolean got, boolean want) {
        is(what, got ? 1 : 0, want ? 1 : 0);
    }

    void is(String what, String got, String want) {
        made++;
        if (!got.equals(want)) {
            fail(what + " answered " + got + ", due is " + want);
        }
    }

    /** The call throws nothing. */
    void passes(String what, Runnable call) {
        is(what, thrownBy(call), "nothing");
    }

    /** The call throws, and all that can be asked of the object answers as it did before. */
    void changesNothing(String what, Supplier<HeatMachines> made, Consumer<HeatMachines> call) {
        String before = Interview.of(made, x -> { });
        String after = Interview.of(made, x -> {
            if (thrownBy(() -> call.accept(x)).equals("nothing")) {
                fail(what + " threw nothing");
            }
        });
        is(what + " changed", Interview.difference(after, before), "");
    }

    /** Numbers from least to most are taken; those beside them and far from them are not. */
    void bounds(String what, int least, int most, IntConsumer call) {
        for (int v : new int[] {least, most}) {
            passes(what + " " + v, () -> call.accept(v));
        }
        for (int v : new int[] {least - 1, most + 1, Integer.MIN_VALUE, Integer.MAX_VALUE}) {
            illegalArgument(what + " " + v, () -> call.accept(v));
        }
    }

    void illegalArgument(String what, Runnable call) {
        is(what, thrownBy(call), "IllegalArgumentException");
    }

    void illegalState(String what, Runnable call) {
        is(what, thrownBy(call), "IllegalStateException");
    }

    /** Ends the program, with exit code 1 if an answer was wrong. */
    void end(String test) {
        System.out.println(test + ": " + made + " checks, " + wrong + " wrong");
        if (wrong != 0 || made == 0) {
            System.exit(1);
        }
    }

    private static String thrownBy(Runnable call) {
        try {
            call.run();
            return "nothing";
        } catch (RuntimeException thrown) {
            return thrown.getClass().getSimpleName();
        }
    }

    private void fail(String text) {
        wrong++;
        if (wrong <= 40) {
            System.out.println(text);
        }
    }
}
