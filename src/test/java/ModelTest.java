import java.util.function.LongSupplier;

/** Long runs of calls, right and wrong ones, each answer against the slow model's. */
public final class ModelTest {
    private static final int OBJECTS = 160;
    private static final int CALLS = 300;
    private static final Checks CHECKS = new Checks();
    private static int plansFound = 0;
    private static int plansMissed = 0;

    public static void main(String[] args) {
        for (int seed = 1; seed <= OBJECTS; seed++) {
            new ModelTest(seed).play();
        }
        CHECKS.is("plans asked for are there at times, and at times not",
                plansFound > OBJECTS && plansMissed > OBJECTS, true);
        CHECKS.end("ModelTest");
    }

    private final int seed;
    private final Dice dice;
    private final HeatMachines x = new HeatMachines();
    private final SlowModel model = new SlowModel();
    /** Small numbers make many plans cost the same, large ones test the sums. */
    private final int scale;
    private int machines = 0;

    private ModelTest(int seed) {
        this.seed = seed;
        this.dice = new Dice(seed);
        this.scale = dice.oneIn(3) ? 100000 : dice.from(2, 40);
    }

    private void play() {
        setUp();
        for (int i = 0; i < CALLS; i++) {
            step(dice.from(0, 99));
        }
        askAll();
    }

    private void setUp() {
        int count = dice.oneIn(4) ? dice.from(0, 3) : 3;
        for (int k = 0; k < count; k++) {
            machine(dice.from(1, 4), dice.from(1, 4), dice.from(0, dice.oneIn(2) ? 20 : scale * 3));
            int rows = dice.from(1, 4);
            for (int i = 0; i < rows; i++) {
                int w = -300 + 600 * i / rows + dice.from(0, 600 / rows - 1);
                row(k, i == 0 && dice.oneIn(2) ? -5000 : w, dice.from(0, scale), dice.from(0, scale));
            }
            row(k, 5000, dice.from(scale / 2, scale), dice.from(0, scale));
        }
        for (int h = 0; h < 36; h++) {
            hour(h, 0, dice.from(-200, 700));
            if (dice.oneIn(2)) {
                hour(h, 1, dice.from(0, dice.oneIn(5) ? 1000 : 12));
            }
        }
    }

    /** Mostly as least .. most, at times just beyond, at times far beyond. */
    private int near(int least, int most) {
        if (dice.oneIn(60)) {
            return dice.oneIn(2) ? least - 1 : most + 1;
        }
        if (dice.oneIn(400)) {
            return dice.oneIn(2) ? Integer.MIN_VALUE : Integer.MAX_VALUE;
        }
        return dice.from(least, most);
    }

    private int anyHour() {
        return near(0, 35);
    }

    private int anyMachine() {
        return near(0, Math.max(machines - 1, 0));
    }

    private int anyWarmth() {
        return dice.oneIn(3) ? near(-5000, 5000) : dice.from(-400, 800);
    }

    private void step(int kind) {
        if (kind < 14) {
            hour(anyHour(), 2, dice.oneIn(60) ? near(0, 100000)
                    : dice.from(0, scale) / dice.from(1, 4));
        } else if (kind < 22) {
            hour(anyHour(), near(0, 2), dice.from(0, dice.oneIn(2) ? 30 : 1100));
        } else if (kind < 30) {
            out(anyMachine(), anyHour(), dice.oneIn(3));
        } else if (kind < 33) {
            row(anyMachine(), anyWarmth(), near(0, 100000), near(0, 100000));
        } else if (kind < 35) {
            machine(near(1, 4), near(1, 4), near(0, 100000));
        } else if (kind < 43) {
            gives(anyMachine(), anyWarmth(), near(0, 1));
        } else if (kind < 53) {
            cost();
        } else if (kind < 63) {
            planned(anyHour());
        } else if (kind < 68) {
            starts(anyMachine());
        } else if (kind < 72) {
            int n = dice.oneIn(10) ? near(1, 36) : dice.from(1, 2);
            same("run(" + n + ")", () -> x.run(n), model.run(n));
        } else if (kind < 76) {
            ran(anyHour());
        } else if (kind < 80) {
            told(near(0, 3));
        } else {
            stepBeside(kind);
        }
    }

    private void stepBeside(int kind) {
        if (kind < 82) {
            int w = anyWarmth();
            int water = near(0, 10000);
            same("corner(" + w + ", " + water + ")", () -> x.corner(w, water), model.corner(w, water));
        } else if (kind < 86) {
            curve(anyWarmth());
        } else if (kind < 90) {
            int g = dice.oneIn(3) ? near(0, 1000) : 1000 - near(0, 1000) / dice.from(1, 60);
            same("ground(" + g + ")", () -> x.ground(g), model.ground(g));
        } else if (kind < 96) {
            int h = anyHour();
            int q = near(-1000, 1000);
            same("load(" + h + ", " + q + ")", () -> x.load(h, q), model.load(h, q));
        } else {
            fall(anyHour());
        }
    }

    private void askAll() {
        cost();
        for (int h = -1; h <= 36; h++) {
            planned(h);
            ran(h);
            fall(h);
        }
        for (int k = -1; k <= 3; k++) {
            starts(k);
            told(k);
            for (int w = -5000; w <= 5000; w += 125) {
                gives(k, w, 0);
                gives(k, w, 1);
            }
        }
        for (int w = -5000; w <= 5000; w += 125) {
            curve(w);
        }
    }

    private void machine(int run, int pause, int cents) {
        long due = model.machine(run, pause, cents);
        machines += due >= 0 ? 1 : 0;
        same("machine(" + run + ", " + pause + ", " + cents + ")",
                () -> x.machine(run, pause, cents), due);
    }

    private void row(int k, int w, int heat, int power) {
        same("row(" + k + ", " + w + ", " + heat + ", " + power + ")",
                () -> x.row(k, w, heat, power), model.row(k, w, heat, power));
    }

    private void hour(int h, int what, int v) {
        same("hour(" + h + ", " + what + ", " + v + ")", () -> x.hour(h, what, v),
                model.hour(h, what, v));
    }

    private void out(int k, int h, boolean is) {
        same("out(" + k + ", " + h + ", " + is + ")", () -> x.out(k, h, is) ? 1 : 0,
                model.out(k, h, is));
    }

    private void gives(int k, int w, int what) {
        same("gives(" + k + ", " + w + ", " + what + ")", () -> x.gives(k, w, what),
                model.gives(k, w, what));
    }

    private void cost() {
        long due = model.cost();
        plansFound += due > 0 ? 1 : 0;
        plansMissed += due < 0 ? 1 : 0;
        same("cost()", x::cost, due);
        if (due < 0 && dice.oneIn(2)) {
            easeNeeds();
        }
    }

    /** Without it, soon no plan would be left to look at. */
    private void easeNeeds() {
        for (int h = 0; h < 36; h++) {
            if (!dice.oneIn(3)) {
                hour(h, 2, dice.oneIn(3) ? 1 : 0);
            }
        }
    }

    private void planned(int h) {
        same("planned(" + h + ")", () -> x.planned(h), model.planned(h));
    }

    private void starts(int k) {
        same("starts(" + k + ")", () -> x.starts(k), model.starts(k));
    }

    private void ran(int h) {
        same("ran(" + h + ")", () -> x.ran(h), model.ran(h));
    }

    private void told(int what) {
        same("told(" + what + ")", () -> x.told(what), model.told(what));
    }

    private void curve(int w) {
        same("curve(" + w + ")", () -> x.curve(w), model.curve(w));
    }

    private void fall(int h) {
        same("fall(" + h + ")", () -> x.fall(h), model.fall(h));
    }

    private void same(String call, LongSupplier answer, long due) {
        CHECKS.is("object " + seed + ": " + call, text(answer), due == SlowModel.ARGUMENT
                ? "IllegalArgumentException"
                : due == SlowModel.STATE ? "IllegalStateException" : Long.toString(due));
    }

    private static String text(LongSupplier answer) {
        try {
            return Long.toString(answer.getAsLong());
        } catch (RuntimeException thrown) {
            return thrown.getClass().getSimpleName();
        }
    }
}
