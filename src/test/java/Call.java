import java.util.Arrays;

/** A call by its name and numbers (a boolean counts 1 or 0), and what it answers, as a text. */
final class Call {
    private final String name;
    private final int[] a;

    Call(String name, int... numbers) {
        this.name = name;
        this.a = numbers;
    }

    /** The answer of an object; the name of the exception if the call throws one. */
    String on(HeatMachines x) {
        try {
            return Long.toString(made(x));
        } catch (RuntimeException thrown) {
            return thrown.getClass().getSimpleName();
        }
    }

    /** The answer that is due by the document. */
    String on(SlowModel model) {
        long due = made(model);
        return due == SlowModel.ARGUMENT ? "IllegalArgumentException"
                : due == SlowModel.STATE ? "IllegalStateException" : Long.toString(due);
    }

    @Override
    public String toString() {
        String numbers = Arrays.toString(a);
        return name + "(" + numbers.substring(1, numbers.length() - 1) + ")";
    }

    private long made(HeatMachines x) {
        return switch (name) {
            case "machine" -> x.machine(a[0], a[1], a[2]);
            case "row" -> x.row(a[0], a[1], a[2], a[3]);
            case "hour" -> x.hour(a[0], a[1], a[2]);
            case "out" -> x.out(a[0], a[1], a[2] == 1) ? 1 : 0;
            case "gives" -> x.gives(a[0], a[1], a[2]);
            case "cost" -> x.cost();
            case "planned" -> x.planned(a[0]);
            case "starts" -> x.starts(a[0]);
            case "run" -> x.run(a[0]);
            case "ran" -> x.ran(a[0]);
            case "told" -> x.told(a[0]);
            case "corner" -> x.corner(a[0], a[1]);
            case "curve" -> x.curve(a[0]);
            case "ground" -> x.ground(a[0]);
            case "load" -> x.load(a[0], a[1]);
            case "fall" -> x.fall(a[0]);
            default -> throw new IllegalCallerException(name);
        };
    }

    private long made(SlowModel model) {
        return switch (name) {
            case "machine" -> model.machine(a[0], a[1], a[2]);
            case "row" -> model.row(a[0], a[1], a[2], a[3]);
            case "hour" -> model.hour(a[0], a[1], a[2]);
            case "out" -> model.out(a[0], a[1], a[2] == 1);
            case "gives" -> model.gives(a[0], a[1], a[2]);
            case "cost" -> model.cost();
            case "planned" -> model.planned(a[0]);
            case "starts" -> model.starts(a[0]);
            case "run" -> model.run(a[0]);
            case "ran" -> model.ran(a[0]);
            case "told" -> model.told(a[0]);
            case "corner" -> model.corner(a[0], a[1]);
            case "curve" -> model.curve(a[0]);
            case "ground" -> model.ground(a[0]);
            case "load" -> model.load(a[0], a[1]);
            case "fall" -> model.fall(a[0]);
            default -> throw new IllegalCallerException(name);
        };
    }
}
