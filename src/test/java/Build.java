/** Objects that many tests begin with. */
final class Build {
    private Build() {
    }

    /** A machine that gives the same everywhere. */
    static int flat(HeatMachines x, int run, int pause, int cents, int heat, int power) {
        int k = x.machine(run, pause, cents);
        x.row(k, -5000, heat, power);
        x.row(k, 5000, heat, power);
        return k;
    }

    /** An object with some machines that are all the same: 5 of heat for 1 of power. */
    static HeatMachines with(int machines) {
        HeatMachines x = new HeatMachines();
        for (int k = 0; k < machines; k++) {
            flat(x, 1, 1, 0, 5, 1);
        }
        return x;
    }

    /** An object with a machine that is needed in all hours, some of them over. */
    static HeatMachines over(int hours) {
        HeatMachines x = with(1);
        for (int h = 0; h < 36; h++) {
            x.hour(h, 2, 5);
        }
        if (hours > 0) {
            x.run(hours);
        }
        return x;
    }

    /** As over, and the last hour needs more than there is. */
    static HeatMachines withoutPlan(int hours) {
        HeatMachines x = over(hours);
        x.hour(35, 2, 6);
        return x;
    }
}
