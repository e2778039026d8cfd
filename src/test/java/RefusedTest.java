import java.util.ArrayList;
import java.util.List;

/**
 * Every call with the numbers at the edges of their bounds, one beside and far beyond them, in
 * states of many kinds: it answers or throws as due, and when it throws nothing has changed.
 */
public final class RefusedTest {
    private static final Checks CHECKS = new Checks();
    private static final int FAR = Integer.MAX_VALUE;
    private static int refused = 0;

    public static void main(String[] args) {
        for (Scene scene : Scene.all()) {
            isAsMeant(scene);
            SlowModel model = scene.model();
            String before = Interview.of(scene::object, x -> { });
            for (Call call : edgeCalls(scene)) {
                tryOut(scene, call, call.on(model.copy()), before);
            }
        }
        CHECKS.is("many calls are refused", refused > 3000, true);
        CHECKS.end("RefusedTest");
    }

    private static void isAsMeant(Scene scene) {
        HeatMachines x = new HeatMachines();
        SlowModel model = new SlowModel();
        for (Call call : scene.calls()) {
            CHECKS.is(scene + ": " + call, call.on(x), call.on(model));
        }
        for (int h = 0; h < 36; h++) {
            CHECKS.is(scene + ": over", x.ran(h) != HeatMachines.NONE, h < scene.over());
        }
        CHECKS.is(scene + ": has a plan", x.cost() != HeatMachines.NONE, scene.hasPlan());
    }

    private static void tryOut(Scene scene, Call call, String due, String before) {
        CHECKS.is(scene + ": " + call, call.on(scene.object()), due);
        if (due.startsWith("Illegal")) {
            refused++;
            String after = Interview.of(scene::object, call::on);
            CHECKS.is(scene + ": what " + call + " changes", Interview.difference(after, before), "");
        }
    }

    private static List<Call> edgeCalls(Scene scene) {
        int[] machines = {-FAR - 1, -1, 0, scene.machines() - 1, scene.machines(), 3, FAR};
        int[] hours = {-FAR - 1, -1, 0, scene.over() - 1, scene.over(), 35, 36, FAR};
        int[] warmths = {-FAR - 1, -5001, -5000, 0, 1, 5000, 5001, FAR};
        int[] amounts = {-1, 0, 100000, 100001};
        int[] flags = {0, 1};
        List<Call> calls = new ArrayList<>(List.of(new Call("cost")));
        cross(calls, "machine", new int[] {0, 1, 4, 5}, new int[] {0, 1, 4, 5}, amounts);
        cross(calls, "row", machines, warmths, amounts, amounts);
        cross(calls, "hour", hours, new int[] {-FAR - 1, -1, 0, 1, 2, 3, FAR}, new int[] {-FAR - 1,
            -5001, -5000, -1, 0, 1000, 1001, 5000, 5001, 100000, 100001, FAR});
        cross(calls, "out", machines, hours, flags);
        cross(calls, "gives", machines, warmths, new int[] {-FAR - 1, -1, 0, 1, 2, FAR});
        cross(calls, "planned", hours);
        cross(calls, "starts", machines);
        cross(calls, "run", new int[] {-FAR - 1, -1, 0, 1, 36, 37, FAR});
        cross(calls, "ran", hours);
        cross(calls, "told", new int[] {-FAR - 1, -1, 0, 1, 2, 3, 4, FAR});
        cross(calls, "corner", warmths, new int[] {-FAR - 1, -1, 0, 10000, 10001, FAR});
        cross(calls, "curve", warmths);
        cross(calls, "ground", new int[] {-FAR - 1, -1, 0, 499, 500, 954, 955, 1000, 1001, FAR});
        cross(calls, "load", hours, new int[] {-FAR - 1, -1001, -1000, 0, 1000, 1001, FAR});
        cross(calls, "fall", hours);
        return calls;
    }

    /** The call with every choice of its numbers. */
    private static void cross(List<Call> calls, String name, int[]... choices) {
        int count = 1;
        for (int[] each : choices) {
            count *= each.length;
        }
        for (int i = 0; i < count; i++) {
            int[] numbers = new int[choices.length];
            int rest = i;
            for (int j = 0; j < choices.length; j++) {
                numbers[j] = choices[j][rest % choices[j].length];
                rest /= choices[j].length;
            }
            calls.add(new Call(name, numbers));
        }
    }
}
