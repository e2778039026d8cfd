/** Long runs of calls, right and wrong ones, each answer against the slow model's. */
public final class ModelTest {
    private static final int OBJECTS = 160;
    private static final int MOST_CALLS = 512;
    /** How many are left for the questions at the end. */
    private static final int LAST_CALLS = 212;
    private static final Checks CHECKS = new Checks();
    private static int plansFound = 0;
    private static int plansMissed = 0;

    public static void main(String[] args) {
        for (int seed = 1; seed <= OBJECTS; seed++) {
            new ModelTest(seed).play();
        }
        CHECKS.is("plans asked for are there at times, and at times not",
                plansFound > OBJECTS && plansMissed > OBJECTS, true);
        CHECKS.end("ModelTest");
    }

    private final int seed;
    private final Dice dice;
    private final HeatMachines x = new HeatMachines();
    private final SlowModel model = new SlowModel();
    /** Small numbers make many plans cost the same, large ones test the sums. */
    private final int scale;
    private int machines = 0;
    private int calls = 0;

    private ModelTest(int seed) {
        this.seed = seed;
        this.dice = new Dice(seed);
        this.scale = dice.oneIn(3) ? 100000 : dice.from(2, 40);
    }

    private void play() {
        setUp();
        while (calls < MOST_CALLS - LAST_CALLS) {
            step(dice.from(0, 99));
        }
        askAll();
    }

    private void setUp() {
        int count = dice.oneIn(4) ? dice.from(0, 3) : 3;
        for (int k = 0; k < count; k++) {
            machine(dice.from(1, 4), dice.from(1, 4), dice.from(0, dice.oneIn(2) ? 20 : scale * 3));
            int rows = dice.from(1, 4);
            for (int i = 0; i < rows; i++) {
                int w = -300 + 600 * i / rows + dice.from(0, 600 / rows - 1);
                call("row", k, i == 0 && dice.oneIn(2) ? -5000 : w, dice.from(0, scale),
                        dice.from(0, scale));
            }
            call("row", k, 5000, dice.from(scale / 2, scale), dice.from(0, scale));
        }
        for (int h = 0; h < 36; h++) {
            call("hour", h, 0, dice.from(-200, 700));
            if (dice.oneIn(2)) {
                call("hour", h, 1, dice.from(0, dice.oneIn(5) ? 1000 : 12));
            }
        }
    }

    /** Mostly as least .. most, at times just beyond, at times far beyond. */
    private int near(int least, int most) {
        if (dice.oneIn(60)) {
            return dice.oneIn(2) ? least - 1 : most + 1;
        }
        if (dice.oneIn(400)) {
            return dice.oneIn(2) ? Integer.MIN_VALUE : Integer.MAX_VALUE;
        }
        return dice.from(least, most);
    }

    private int anyHour() {
        return near(0, 35);
    }

    private int anyMachine() {
        return near(0, Math.max(machines - 1, 0));
    }

    private int anyWarmth() {
        return dice.oneIn(3) ? near(-5000, 5000) : dice.from(-400, 800);
    }

    private void step(int kind) {
        if (kind < 14) {
            call("hour", anyHour(), 2, dice.oneIn(60) ? near(0, 100000)
                    : dice.from(0, scale) / dice.from(1, 4));
        } else if (kind < 22) {
            call("hour", anyHour(), near(0, 2), dice.from(0, dice.oneIn(2) ? 30 : 1100));
        } else if (kind < 30) {
            call("out", anyMachine(), anyHour(), dice.oneIn(3) ? 1 : 0);
        } else if (kind < 33) {
            call("row", anyMachine(), anyWarmth(), near(0, 100000), near(0, 100000));
        } else if (kind < 35) {
            machine(near(1, 4), near(1, 4), near(0, 100000));
        } else if (kind < 43) {
            call("gives", anyMachine(), anyWarmth(), near(0, 1));
        } else if (kind < 53) {
            cost();
        } else if (kind < 63) {
            call("planned", anyHour());
        } else if (kind < 68) {
            call("starts", anyMachine());
        } else if (kind < 72) {
            call("run", dice.oneIn(10) ? near(1, 36) : dice.from(1, 2));
        } else if (kind < 76) {
            call("ran", anyHour());
        } else if (kind < 80) {
            call("told", near(0, 3));
        } else {
            stepBeside(kind);
        }
    }

    private void stepBeside(int kind) {
        if (kind < 82) {
            call("corner", anyWarmth(), near(0, 10000));
        } else if (kind < 86) {
            call("curve", anyWarmth());
        } else if (kind < 90) {
            call("ground", dice.oneIn(3) ? near(0, 1000) : 1000 - near(0, 1000) / dice.from(1, 60));
        } else if (kind < 96) {
            call("load", anyHour(), near(-1000, 1000));
        } else {
            call("fall", anyHour());
        }
    }

    private void askAll() {
        cost();
        for (int h = -1; h <= 36; h++) {
            call("planned", h);
            call("ran", h);
            call("fall", h);
        }
        for (int k = -1; k <= 3; k++) {
            call("starts", k);
            call("told", k);
            for (int w = -5000; w <= 5000; w += 1250) {
                call("gives", k, w, dice.from(0, 1));
            }
        }
        for (int w = -5000; w <= 5000; w += 1250) {
            call("curve", w);
        }
    }

    private void machine(int run, int pause, int cents) {
        machines += call("machine", run, pause, cents).startsWith("I") ? 0 : 1;
    }

    private void cost() {
        String due = call("cost");
        plansFound += due.equals("-1") || due.equals("0") ? 0 : 1;
        if (due.equals("-1")) {
            plansMissed++;
            if (dice.oneIn(2)) {
                easeNeeds();
            }
        }
    }

    /** Without it, soon no plan would be left to look at. */
    private void easeNeeds() {
        for (int h = 0; h < 36; h++) {
            if (!dice.oneIn(3)) {
                call("hour", h, 2, dice.oneIn(3) ? 1 : 0);
            }
        }
    }

    /** The call on both, the answers being the same; what an object answers too late is free. */
    private String call(String name, int... numbers) {
        Call call = new Call(name, numbers);
        String due = call.on(model);
        if (calls < MOST_CALLS) {
            calls++;
            CHECKS.is("object " + seed + ", call " + calls + ": " + call, call.on(x), due);
        }
        return due;
    }
}
