import java.util.ArrayList;
import java.util.List;
import java.util.function.Consumer;
import java.util.function.Supplier;

/**
 * All that an object can be asked, in one text, so that a change anywhere in it shows. What is held
 * inside shows only in what calls answer that change it; and an object has but 512 calls. So each
 * part of the interview is put to an object of its own, made in the same way.
 */
final class Interview {
    private static final int[] WARMTHS = {-5000, -4999, -1000, -1, 0, 1, 1000, 4999, 5000};
    private static final List<List<Call>> PARTS = List.of(looks(), plans(), hours(), outages(), rest());

    private Interview() {
    }

    /** Of an object that is made, then treated. */
    static String of(Supplier<HeatMachines> made, Consumer<HeatMachines> treated) {
        StringBuilder text = new StringBuilder();
        for (List<Call> part : PARTS) {
            HeatMachines x = made.get();
            treated.accept(x);
            for (Call call : part) {
                text.append(call).append(" = ").append(call.on(x)).append('\n');
            }
        }
        return text.toString();
    }

    /** The lines in which two interviews are not the same. */
    static String difference(String one, String other) {
        String[] a = one.split("\n");
        String[] b = other.split("\n");
        StringBuilder text = new StringBuilder();
        for (int i = 0; i < a.length && i < b.length; i++) {
            if (!a[i].equals(b[i])) {
                text.append(a[i]).append(", not ").append(b[i]).append("; ");
            }
        }
        return text.toString();
    }

    private static List<Call> looks() {
        List<Call> calls = new ArrayList<>();
        calls.add(new Call("cost"));
        for (int h = 0; h < 36; h++) {
            calls.add(new Call("planned", h));
            calls.add(new Call("ran", h));
            calls.add(new Call("fall", h));
        }
        for (int k = 0; k < 3; k++) {
            calls.add(new Call("starts", k));
            for (int w : WARMTHS) {
                calls.add(new Call("gives", k, w, 0));
                calls.add(new Call("gives", k, w, 1));
            }
        }
        for (int what = 0; what < 4; what++) {
            calls.add(new Call("told", what));
        }
        for (int w : WARMTHS) {
            calls.add(new Call("curve", w));
        }
        return calls;
    }

    /** How it goes on: what binds a machine shows in the hours that come. */
    private static List<Call> plans() {
        List<Call> calls = new ArrayList<>();
        for (int i = 0; i < 36; i++) {
            calls.add(new Call("run", 1));
            calls.add(new Call("cost"));
        }
        for (int h = 0; h < 36; h++) {
            calls.add(new Call("ran", h));
        }
        for (int what = 0; what < 4; what++) {
            calls.add(new Call("told", what));
        }
        return calls;
    }

    private static List<Call> hours() {
        List<Call> calls = new ArrayList<>();
        for (int h = 0; h < 36; h++) {
            for (int what = 0; what < 3; what++) {
                calls.add(new Call("hour", h, what, 1));
            }
        }
        return calls;
    }

    private static List<Call> outages() {
        List<Call> calls = new ArrayList<>();
        for (int h = 0; h < 36; h++) {
            for (int k = 0; k < 3; k++) {
                calls.add(new Call("out", k, h, 1));
            }
            calls.add(new Call("load", h, 1));
        }
        return calls;
    }

    /** How many there are of all that is counted, and what came last. */
    private static List<Call> rest() {
        List<Call> calls = new ArrayList<>();
        for (int w = -5000; w <= 5000; w += 1000) {
            calls.add(new Call("corner", w, 1));
            for (int k = 0; k < 3; k++) {
                calls.add(new Call("row", k, w, 1, 1));
            }
        }
        for (int g = 0; g <= 1000; g += 50) {
            calls.add(new Call("ground", g));
        }
        for (int i = 0; i < 4; i++) {
            calls.add(new Call("machine", 1, 1, 0));
        }
        return calls;
    }
}
