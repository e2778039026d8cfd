import java.util.ArrayList;
import java.util.List;

/** A run of calls that brings a new object into a state of interest. */
final class Scene {
    private static final int OUTSIDE = 0;
    private static final int PRICE = 1;
    private static final int NEED = 2;
    private final String name;
    private final List<Call> calls = new ArrayList<>();
    /** What the edges of calls in this state depend on. */
    private int machines = 0;
    private int over = 0;
    private boolean hasPlan = true;

    private Scene(String name) {
        this.name = name;
    }

    static List<Scene> all() {
        return List.of(fresh(), rowless(), begun(), full(), underWay(), withoutPlan(), nearEnd(),
                atEnd());
    }

    HeatMachines object() {
        HeatMachines x = new HeatMachines();
        for (Call call : calls) {
            call.on(x);
        }
        return x;
    }

    SlowModel model() {
        SlowModel model = new SlowModel();
        for (Call call : calls) {
            call.on(model);
        }
        return model;
    }

    List<Call> calls() {
        return calls;
    }

    int machines() {
        return machines;
    }

    int over() {
        return over;
    }

    boolean hasPlan() {
        return hasPlan;
    }

    @Override
    public String toString() {
        return name;
    }

    private Scene then(String call, int... numbers) {
        calls.add(new Call(call, numbers));
        return this;
    }

    private Scene machine(int run, int pause, int cents) {
        machines++;
        return then("machine", run, pause, cents);
    }

    private Scene run(int n) {
        over += n;
        return then("run", n);
    }

    private static Scene fresh() {
        return new Scene("a new object");
    }

    private static Scene rowless() {
        return new Scene("a machine without rows").machine(4, 4, 100000);
    }

    private static Scene begun() {
        return new Scene("all begun").machine(2, 3, 50).then("row", 0, 0, 10, 10)
                .then("row", 0, 1000, 40, 7).machine(1, 1, 0).then("row", 1, 0, 3, 5)
                .then("corner", -1000, 6000).then("corner", 0, 5001)
                .then("ground", 5).then("ground", 500)
                .then("load", 0, 7).then("load", 1, -7).then("load", 35, 1000)
                .then("hour", 0, NEED, 4).then("hour", 5, NEED, 13).then("hour", 35, NEED, 10)
                .then("hour", 7, OUTSIDE, 500).then("hour", 7, NEED, 20).then("hour", 7, PRICE, 3)
                .then("out", 1, 0, 1).then("out", 0, 35, 1).then("hour", 35, NEED, 3);
    }

    private static Scene full() {
        Scene scene = begun().machine(4, 4, 100000);
        for (int i = 0; i < 8; i++) {
            scene.then("row", 2, -5000 + 1000 * i, 100000 - 10 * i, 90000 + 7 * i);
            scene.then("row", 1, 1 + i, 3 + i, 100000 - i);
        }
        for (int i = 1; i < 5; i++) {
            scene.then("corner", 1000 * i, 5001 - 777 * i);
        }
        for (int i = 2; i < 36; i++) {
            scene.then("ground", 500 + 13 * i);
        }
        return scene.named("all full");
    }

    private static Scene underWay() {
        return full().then("hour", 8, NEED, 50).then("hour", 8, PRICE, 1000).then("out", 2, 11, 1)
                .run(9).then("hour", 20, NEED, 14).named("a run under way");
    }

    private static Scene withoutPlan() {
        Scene scene = underWay().then("hour", 11, NEED, 14).named("no plan");
        scene.hasPlan = false;
        return scene;
    }

    private static Scene nearEnd() {
        return full().run(35).named("the last hour");
    }

    private static Scene atEnd() {
        return full().run(36).named("all hours over");
    }

    private Scene named(String other) {
        Scene scene = new Scene(other);
        scene.calls.addAll(calls);
        scene.machines = machines;
        scene.over = over;
        return scene;
    }
}
