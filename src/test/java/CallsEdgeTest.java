/**
 * The promises' boundary cases, call by call: the least and the most number that is allowed and the
 * next ones that are not, what is empty, what is full, and each call that is refused.
 */
public final class CallsEdgeTest {
    private static final int NONE = HeatMachines.NONE;
    private static final int OUTSIDE = 0;
    private static final int PRICE = 1;
    private static final int NEED = 2;
    private static final Checks CHECKS = new Checks();

    public static void main(String[] args) {
        newObject();
        machineBounds();
        machineWhenThereAreThree();
        machineWhenAnHourIsOver();
        rowBounds();
        rowWhenItHasEight();
        rowWhenNotAbove();
        rowTellsInAllHours();
        hourBounds();
        hourWhenOver();
        hourTakesItsLeastAndMost();
        outBounds();
        outWhenOver();
        givesBounds();
        givesNone();
        costNone();
        plannedBounds();
        plannedNone();
        startsBounds();
        startsNone();
        startsAtTheSeam();
        runBounds();
        runWithoutPlan();
        runAtTheEnd();
        ranBounds();
        toldBounds();
        toldEmptyAndFull();
        cornerBounds();
        cornerWhenItHasSix();
        cornerWhenNotAbove();
        curveBounds();
        curveEnds();
        groundBounds();
        groundNotLess();
        groundWhenThereAreThirtySix();
        loadBounds();
        loadWhenOver();
        fallBounds();
        fallByTheTable();
        lastOfAllCalls();
        CHECKS.end("CallsEdgeTest");
    }

    /** Promise 1. "No machines." And by the terms what each hour has at first. */
    private static void newObject() {
        for (int k = -1; k <= 3; k++) {
            int which = k;
            CHECKS.illegalArgument("1: row of " + k, () -> new HeatMachines().row(which, 0, 0, 0));
            CHECKS.illegalArgument("1: out of " + k, () -> new HeatMachines().out(which, 0, true));
            CHECKS.illegalArgument("1: gives of " + k, () -> new HeatMachines().gives(which, 0, 0));
            CHECKS.illegalArgument("1: starts of " + k, () -> new HeatMachines().starts(which));
        }
        HeatMachines x = new HeatMachines();
        CHECKS.is("1: nothing is needed, nothing costs", x.cost(), 0);
        for (int h = 0; h < 36; h++) {
            CHECKS.is("1: the empty set is planned in " + h, x.planned(h), 0);
            CHECKS.is("1: not over is " + h, x.ran(h), NONE);
        }
        for (int h = 0; h < 36; h++) {
            CHECKS.is("1: outside at first in " + h, x.hour(h, OUTSIDE, 1), 0);
            CHECKS.is("1: price at first in " + h, x.hour(h, PRICE, 1), 10);
            CHECKS.is("1: need at first in " + h, x.hour(h, NEED, 1), 0);
            CHECKS.is("1: load at first in " + h, x.load(h, 1), 0);
        }
        HeatMachines y = Build.with(3);
        for (int h = 0; h < 36; h++) {
            for (int k = 0; k < 3; k++) {
                CHECKS.is("1: none is out at first in " + h, y.out(k, h, true), false);
            }
        }
    }

    /** Promise 2. The bounds of its numbers. */
    private static void machineBounds() {
        CHECKS.bounds("2: least run", 1, 4, v -> new HeatMachines().machine(v, 1, 0));
        CHECKS.bounds("2: least pause", 1, 4, v -> new HeatMachines().machine(1, v, 0));
        CHECKS.bounds("2: cents", 0, 100000, v -> new HeatMachines().machine(1, 1, v));
        CHECKS.changesNothing("2: least run 0", HeatMachines::new, x -> x.machine(0, 1, 0));
        CHECKS.changesNothing("2: least pause 5", () -> Build.with(1), x -> x.machine(1, 5, 0));
        CHECKS.changesNothing("2: cents 100001", () -> Build.with(2), x -> x.machine(1, 1, 100001));
        for (int cents : new int[] {0, 100000}) {
            HeatMachines x = new HeatMachines();
            Build.flat(x, 1, 1, cents, 5, 1);
            x.hour(0, NEED, 5);
            CHECKS.is("2: a start costs " + cents, x.cost(), 10 + cents);
        }
    }

    /** Promise 2. "illegal state: there are 3". */
    private static void machineWhenThereAreThree() {
        HeatMachines x = new HeatMachines();
        for (int k = 0; k < 3; k++) {
            CHECKS.is("2: machine " + k, x.machine(4, 4, 100000), k);
        }
        CHECKS.illegalState("2: a fourth", () -> x.machine(4, 4, 100000));
        CHECKS.illegalState("2: a fourth again", () -> x.machine(1, 1, 0));
        CHECKS.changesNothing("2: a fourth", () -> Build.with(3), y -> y.machine(2, 2, 2));
        CHECKS.illegalArgument("2: a wrong run goes first", () -> x.machine(5, 1, 0));
        CHECKS.illegalArgument("2: a wrong pause goes first", () -> x.machine(1, 0, 0));
        CHECKS.illegalArgument("2: wrong cents go first", () -> x.machine(1, 1, -1));
    }

    /** Promise 2. "or an hour is over". */
    private static void machineWhenAnHourIsOver() {
        for (int over : new int[] {1, 35, 36}) {
            HeatMachines x = Build.over(over);
            CHECKS.illegalState("2: " + over + " are over", () -> x.machine(1, 1, 0));
            CHECKS.illegalArgument("2: wrong cents go first", () -> x.machine(1, 1, 100001));
            CHECKS.changesNothing("2: " + over + " are over", () -> Build.over(over),
                    y -> y.machine(1, 1, 0));
        }
        HeatMachines y = new HeatMachines();
        y.run(1);
        CHECKS.illegalState("2: over without machines", () -> y.machine(1, 1, 0));
        HeatMachines z = Build.withoutPlan(0);
        z.run(36);
        CHECKS.is("2: no hour passed, so none is over", z.machine(1, 1, 0), 1);
    }

    /** Promise 3. The bounds of its numbers. */
    private static void rowBounds() {
        for (int count = 1; count <= 3; count++) {
            int machines = count;
            CHECKS.bounds("3: machine of " + count, 0, count - 1,
                    v -> rowless(machines).row(v, 0, 0, 0));
        }
        CHECKS.bounds("3: outside", -5000, 5000, v -> rowless(1).row(0, v, 0, 0));
        CHECKS.bounds("3: heat", 0, 100000, v -> rowless(1).row(0, 0, v, 0));
        CHECKS.bounds("3: power", 0, 100000, v -> rowless(1).row(0, 0, 0, v));
        CHECKS.changesNothing("3: heat 100001", () -> rowless(2), x -> x.row(1, 0, 100001, 1));
        CHECKS.changesNothing("3: power -1", () -> rowless(2), x -> x.row(1, 0, 1, -1));
        CHECKS.changesNothing("3: outside 5001", () -> rowless(2), x -> x.row(0, 5001, 1, 1));
        CHECKS.changesNothing("3: machine 2 of 2", () -> rowless(2), x -> x.row(2, 0, 1, 1));
        HeatMachines x = rowless(1);
        x.row(0, -5000, 0, 100000);
        x.row(0, 5000, 100000, 0);
        CHECKS.is("3: the least heat", x.gives(0, -5000, 0), 0);
        CHECKS.is("3: the most power", x.gives(0, -5000, 1), 100000);
        CHECKS.is("3: the most heat", x.gives(0, 5000, 0), 100000);
        CHECKS.is("3: the least power", x.gives(0, 5000, 1), 0);
    }

    private static HeatMachines rowless(int machines) {
        HeatMachines x = new HeatMachines();
        for (int k = 0; k < machines; k++) {
            x.machine(1, 1, 0);
        }
        return x;
    }

    /** A machine with rows at 0, 10, 20 .. of heat 1, 2, 3 .. and power 11, 12, 13 .. */
    private static HeatMachines rows(int count) {
        HeatMachines x = rowless(1);
        for (int i = 0; i < count; i++) {
            x.row(0, 10 * i, 1 + i, 11 + i);
        }
        return x;
    }

    /** Promise 3. "illegal state: it has 8". */
    private static void rowWhenItHasEight() {
        CHECKS.is("3: the eighth", rows(7).row(0, 70, 5, 5), 8);
        HeatMachines x = rows(8);
        CHECKS.is("3: the eighth counts", x.gives(0, 70, 0), 8);
        CHECKS.illegalState("3: a ninth above the last", () -> x.row(0, 71, 5, 5));
        CHECKS.illegalState("3: a ninth not above", () -> x.row(0, 70, 5, 5));
        CHECKS.illegalArgument("3: a ninth too warm", () -> x.row(0, 5001, 5, 5));
        CHECKS.illegalArgument("3: a ninth with too much heat", () -> x.row(0, 71, 100001, 5));
        CHECKS.illegalArgument("3: a ninth with too little power", () -> x.row(0, 71, 5, -1));
        CHECKS.changesNothing("3: a ninth", () -> rows(8), y -> y.row(0, 71, 5, 5));
        HeatMachines z = rows(8);
        z.machine(1, 1, 0);
        for (int i = 0; i < 8; i++) {
            CHECKS.is("3: the other has its own eight", z.row(1, 5000 - 7 + i, 1, 1), i + 1);
        }
        CHECKS.illegalState("3: and no ninth", () -> z.row(1, 5000, 1, 1));
    }

    /** Promise 3. "or the warmth is not above the last one's". */
    private static void rowWhenNotAbove() {
        CHECKS.illegalState("3: the last one's warmth", () -> rows(3).row(0, 20, 5, 5));
        CHECKS.illegalState("3: one below it", () -> rows(3).row(0, 19, 5, 5));
        CHECKS.illegalState("3: the first one's", () -> rows(3).row(0, 0, 5, 5));
        CHECKS.illegalState("3: the coldest", () -> rows(3).row(0, -5000, 5, 5));
        CHECKS.illegalArgument("3: too cold", () -> rows(3).row(0, -5001, 5, 5));
        CHECKS.illegalArgument("3: wrong heat goes first", () -> rows(3).row(0, 20, -1, 5));
        CHECKS.is("3: one above it", rows(3).row(0, 21, 5, 5), 4);
        CHECKS.changesNothing("3: not above", () -> rows(3), x -> x.row(0, 20, 50, 50));
        HeatMachines y = rowless(2);
        CHECKS.is("3: the warmest first", y.row(0, 5000, 5, 5), 1);
        CHECKS.illegalState("3: none behind it", () -> y.row(0, 5000, 5, 5));
        CHECKS.is("3: the other's rows do not matter", y.row(1, -5000, 5, 5), 1);
    }

    /** Promise 3. A row changes the plan of the first hour and of the last one. */
    private static void rowTellsInAllHours() {
        for (int h : new int[] {0, 35}) {
            HeatMachines x = rowless(1);
            x.hour(h, NEED, 5);
            CHECKS.is("3: without rows in " + h, x.cost(), NONE);
            x.row(0, 0, 5, 1);
            CHECKS.is("3: with a row in " + h, x.cost(), 10);
            x.hour(h, OUTSIDE, 4);
            CHECKS.is("3: too warm in " + h, x.planned(h), NONE);
            x.row(0, 5, 5, 6);
            CHECKS.is("3: with a second row in " + h, x.cost(), 50);
        }
    }

    /** Promise 4. The bounds of its numbers. */
    private static void hourBounds() {
        for (int what = 0; what < 3; what++) {
            int which = what;
            CHECKS.bounds("4: hour", 0, 35, v -> new HeatMachines().hour(v, which, 1));
        }
        CHECKS.bounds("4: what", 0, 2, v -> new HeatMachines().hour(3, v, 1));
        CHECKS.bounds("4: outside", -5000, 5000, v -> new HeatMachines().hour(3, OUTSIDE, v));
        CHECKS.bounds("4: price", 0, 1000, v -> new HeatMachines().hour(3, PRICE, v));
        CHECKS.bounds("4: need", 0, 100000, v -> new HeatMachines().hour(3, NEED, v));
        CHECKS.changesNothing("4: hour 36", () -> Build.over(0), x -> x.hour(36, NEED, 1));
        CHECKS.changesNothing("4: what 3", () -> Build.over(0), x -> x.hour(35, 3, 1));
        CHECKS.changesNothing("4: outside 5001", () -> Build.over(0), x -> x.hour(0, OUTSIDE, 5001));
        CHECKS.changesNothing("4: price 1001", () -> Build.over(0), x -> x.hour(0, PRICE, 1001));
        CHECKS.changesNothing("4: need -1", () -> Build.over(0), x -> x.hour(0, NEED, -1));
    }

    /** Promise 4. "illegal state: the hour is over". */
    private static void hourWhenOver() {
        for (int over : new int[] {1, 7, 35}) {
            HeatMachines x = Build.over(over);
            for (int what = 0; what < 3; what++) {
                int which = what;
                CHECKS.illegalState("4: the last one over", () -> x.hour(over - 1, which, 1));
                CHECKS.illegalState("4: the first one over", () -> x.hour(0, which, 1));
                CHECKS.illegalArgument("4: a wrong number", () -> x.hour(over - 1, which, -5001));
            }
            CHECKS.illegalArgument("4: a wrong what", () -> x.hour(over - 1, 3, 1));
            CHECKS.is("4: the first one not over", x.hour(over, NEED, 1), 5);
            CHECKS.changesNothing("4: over", () -> Build.over(over), y -> y.hour(over - 1, NEED, 1));
        }
        HeatMachines z = Build.over(36);
        CHECKS.illegalState("4: all are over", () -> z.hour(35, PRICE, 10));
        CHECKS.illegalArgument("4: all are over, but not 36", () -> z.hour(36, PRICE, 10));
    }

    /** Promise 4. The least and the most that an hour may have hold in the plan. */
    private static void hourTakesItsLeastAndMost() {
        for (int w : new int[] {-5000, 5000}) {
            HeatMachines x = rowless(1);
            x.row(0, w, 100000, 100000);
            x.hour(35, OUTSIDE, w);
            x.hour(35, NEED, 100000);
            x.hour(35, PRICE, 1000);
            CHECKS.is("4: the most of all at " + w, x.cost(), 100000000);
            CHECKS.is("4: price was", x.hour(35, PRICE, 0), 1000);
            CHECKS.is("4: for nothing", x.cost(), 0);
            CHECKS.is("4: but it runs", x.planned(35), 1);
            CHECKS.is("4: need was", x.hour(35, NEED, 0), 100000);
            CHECKS.is("4: and is not needed", x.planned(35), 0);
            CHECKS.is("4: outside was", x.hour(35, OUTSIDE, 0), w);
        }
        HeatMachines y = rowless(1);
        y.row(0, 0, 99999, 1);
        y.hour(0, NEED, 100000);
        CHECKS.is("4: one is wanting", y.cost(), NONE);
        y.hour(0, NEED, 99999);
        CHECKS.is("4: just enough", y.cost(), 10);
    }

    /** Promise 5. The bounds of its numbers. */
    private static void outBounds() {
        for (int count = 1; count <= 3; count++) {
            int machines = count;
            CHECKS.bounds("5: machine of " + count, 0, count - 1,
                    v -> rowless(machines).out(v, 0, true));
        }
        CHECKS.bounds("5: hour", 0, 35, v -> rowless(1).out(0, v, true));
        CHECKS.changesNothing("5: hour 36", () -> rowless(2), x -> x.out(1, 36, true));
        CHECKS.changesNothing("5: machine 2 of 2", () -> rowless(2), x -> x.out(2, 35, true));
        HeatMachines x = rowless(3);
        CHECKS.is("5: in is in", x.out(2, 35, false), false);
        CHECKS.is("5: in goes out", x.out(2, 35, true), false);
        CHECKS.is("5: out is out", x.out(2, 35, true), true);
        CHECKS.is("5: out goes in", x.out(2, 35, false), true);
        CHECKS.is("5: in again", x.out(2, 35, false), false);
        CHECKS.is("5: the hour before is its own", x.out(2, 34, false), false);
        CHECKS.is("5: the machine before is its own", x.out(1, 35, false), false);
    }

    /** Promise 5. "illegal state: the hour is over". */
    private static void outWhenOver() {
        for (int over : new int[] {1, 7, 35}) {
            HeatMachines x = Build.over(over);
            CHECKS.illegalState("5: the last one over", () -> x.out(0, over - 1, true));
            CHECKS.illegalState("5: the first one over", () -> x.out(0, 0, false));
            CHECKS.illegalArgument("5: no such machine", () -> x.out(1, over - 1, true));
            CHECKS.is("5: the first one not over", x.out(0, over, true), false);
            CHECKS.changesNothing("5: over", () -> Build.over(over), y -> y.out(0, over - 1, true));
        }
        HeatMachines z = Build.over(36);
        CHECKS.illegalState("5: all are over", () -> z.out(0, 35, true));
        CHECKS.illegalArgument("5: all are over, but not 36", () -> z.out(0, 36, true));
    }

    /** Promise 6. The bounds of its numbers. */
    private static void givesBounds() {
        for (int count = 1; count <= 3; count++) {
            int machines = count;
            CHECKS.bounds("6: machine of " + count, 0, count - 1,
                    v -> rowless(machines).gives(v, 0, 0));
        }
        CHECKS.bounds("6: outside", -5000, 5000, v -> rows(3).gives(0, v, 0));
        CHECKS.bounds("6: outside without rows", -5000, 5000, v -> rowless(1).gives(0, v, 1));
        CHECKS.bounds("6: what", 0, 1, v -> rows(3).gives(0, 0, v));
        CHECKS.changesNothing("6: what 2", () -> rows(3), x -> x.gives(0, 0, 2));
    }

    /** Promise 6. "NONE if it CANNOT run at it". */
    private static void givesNone() {
        for (int what = 0; what < 2; what++) {
            CHECKS.is("6: without rows", rowless(1).gives(0, 0, what), NONE);
            for (int count = 1; count <= 8; count++) {
                HeatMachines x = rows(count);
                int last = 10 * (count - 1);
                CHECKS.is("6: at the first", x.gives(0, 0, what), 1 + 10 * what);
                CHECKS.is("6: before the first", x.gives(0, -1, what), NONE);
                CHECKS.is("6: far before", x.gives(0, -5000, what), NONE);
                CHECKS.is("6: at the last", x.gives(0, last, what), count + 10 * what);
                CHECKS.is("6: behind the last", x.gives(0, last + 1, what), NONE);
                CHECKS.is("6: far behind", x.gives(0, 5000, what), NONE);
            }
        }
        HeatMachines y = rows(2);
        y.out(0, 0, true);
        CHECKS.is("6: out is of hours, not of warmths", y.gives(0, 0, 0), 1);
    }

    /** Promise 7. "NONE if none MAY BE." */
    private static void costNone() {
        CHECKS.is("7: the last hour needs more than there is", Build.withoutPlan(0).cost(), NONE);
        CHECKS.is("7: that is there from any hour on", Build.withoutPlan(35).cost(), NONE);
        CHECKS.is("7: all costs", Build.over(0).cost(), 360);
        CHECKS.is("7: the last hour costs", Build.over(35).cost(), 10);
        CHECKS.is("7: no hour is left", Build.over(36).cost(), 0);
        HeatMachines x = new HeatMachines();
        x.hour(0, NEED, 1);
        CHECKS.is("7: the first hour needs what no machine gives", x.cost(), NONE);
        x.hour(0, NEED, 0);
        CHECKS.is("7: it needs nothing", x.cost(), 0);
        HeatMachines y = rowless(1);
        y.hour(0, NEED, 1);
        CHECKS.is("7: without rows", y.cost(), NONE);
        HeatMachines z = rowless(1);
        z.row(0, 0, 0, 100);
        CHECKS.is("7: no heat is heat enough for no need", z.cost(), 0);
        z.hour(0, NEED, 1);
        CHECKS.is("7: no heat is none", z.cost(), NONE);
    }

    /** Promise 8. The bounds of its numbers. */
    private static void plannedBounds() {
        CHECKS.bounds("8: hour", 0, 35, v -> new HeatMachines().planned(v));
        CHECKS.bounds("8: hour without a plan", 0, 35, v -> Build.withoutPlan(0).planned(v));
        CHECKS.bounds("8: hour when all are over", 0, 35, v -> Build.over(36).planned(v));
        CHECKS.changesNothing("8: hour 36", () -> Build.over(3), x -> x.planned(36));
    }

    /** Promise 8. "NONE if the hour is over, or there is no plan." */
    private static void plannedNone() {
        for (int over = 0; over <= 36; over++) {
            HeatMachines x = Build.over(over);
            for (int h = 0; h < 36; h++) {
                CHECKS.is("8: " + h + " with " + over + " over", x.planned(h), h < over ? NONE : 1);
            }
        }
        HeatMachines y = Build.withoutPlan(7);
        for (int h = 0; h < 36; h++) {
            CHECKS.is("8: " + h + " without a plan", y.planned(h), NONE);
        }
        CHECKS.is("8: all of three", threeNeeded().planned(0), 7);
    }

    private static HeatMachines threeNeeded() {
        HeatMachines x = Build.with(3);
        x.hour(0, NEED, 15);
        return x;
    }

    /** Promise 9. The bounds of its numbers. */
    private static void startsBounds() {
        for (int count = 1; count <= 3; count++) {
            int machines = count;
            CHECKS.bounds("9: machine of " + count, 0, count - 1, v -> Build.with(machines).starts(v));
        }
        CHECKS.illegalArgument("9: also without a plan", () -> Build.withoutPlan(0).starts(1));
        CHECKS.changesNothing("9: machine 1 of 1", () -> Build.over(3), x -> x.starts(1));
    }

    /** Promise 9. "NONE if there is no plan." */
    private static void startsNone() {
        CHECKS.is("9: no plan", Build.withoutPlan(0).starts(0), NONE);
        CHECKS.is("9: no plan later", Build.withoutPlan(35).starts(0), NONE);
        CHECKS.is("9: a plan without starts", Build.with(1).starts(0), 0);
        CHECKS.is("9: all are over", Build.over(36).starts(0), 0);
        HeatMachines x = Build.with(2);
        for (int h = 0; h < 36; h += 2) {
            x.hour(h, NEED, 5);
        }
        CHECKS.is("9: the most", x.starts(0), 18);
        CHECKS.is("9: the other never", x.starts(1), 0);
    }

    /** Promise 9. A start is one by what ran in the hour before, also if that one is over. */
    private static void startsAtTheSeam() {
        CHECKS.is("9: before hour 0 none runs", Build.over(0).starts(0), 1);
        CHECKS.is("9: it runs on", Build.over(1).starts(0), 0);
        HeatMachines x = Build.with(1);
        x.hour(1, NEED, 5);
        x.run(1);
        CHECKS.is("9: it paused in the last hour over", x.starts(0), 1);
        x.run(1);
        CHECKS.is("9: it started in the last hour over", x.starts(0), 0);
        x.hour(3, NEED, 5);
        CHECKS.is("9: it pauses and starts again", x.starts(0), 1);
    }

    /** Promise 10. The bounds of its number. */
    private static void runBounds() {
        CHECKS.bounds("10: hours", 1, 36, v -> new HeatMachines().run(v));
        CHECKS.bounds("10: hours without a plan", 1, 36, v -> Build.withoutPlan(0).run(v));
        CHECKS.bounds("10: hours when all are over", 1, 36, v -> Build.over(36).run(v));
        CHECKS.changesNothing("10: 0 hours", () -> Build.over(3), x -> x.run(0));
        CHECKS.changesNothing("10: 37 hours", () -> Build.over(3), x -> x.run(37));
        CHECKS.is("10: one", Build.over(0).run(1), 1);
        CHECKS.is("10: all", Build.over(0).run(36), 36);
        CHECKS.is("10: all but one", Build.over(0).run(35), 35);
    }

    /** Promise 10. "none any more when there is no plan". */
    private static void runWithoutPlan() {
        for (int over : new int[] {0, 1, 35}) {
            for (int n : new int[] {1, 36}) {
                HeatMachines x = Build.withoutPlan(over);
                CHECKS.is("10: none of " + n, x.run(n), over);
                CHECKS.is("10: none ran", x.ran(over), NONE);
                CHECKS.is("12: nothing is told of", x.told(3), over);
                CHECKS.is("4: it is not over", x.hour(35, NEED, 5), 6);
                CHECKS.is("10: now they pass", x.run(36), 36);
            }
        }
    }

    /** Promise 10. "or all are over". */
    private static void runAtTheEnd() {
        for (int n : new int[] {1, 2, 36}) {
            CHECKS.is("10: the last one", Build.over(35).run(n), 36);
            CHECKS.is("10: none is left", Build.over(36).run(n), 36);
        }
        HeatMachines x = Build.over(36);
        x.run(36);
        CHECKS.is("12: none is told of twice", x.told(3), 36);
        for (int over = 0; over < 36; over++) {
            CHECKS.is("10: just the rest", Build.over(over).run(36 - over), 36);
        }
    }

    /** Promise 11. Its bounds, and "NONE if it is not". */
    private static void ranBounds() {
        CHECKS.bounds("11: hour", 0, 35, v -> new HeatMachines().ran(v));
        CHECKS.bounds("11: hour when all are over", 0, 35, v -> Build.over(36).ran(v));
        CHECKS.changesNothing("11: hour 36", () -> Build.over(3), x -> x.ran(36));
        for (int over = 0; over <= 36; over++) {
            HeatMachines x = Build.over(over);
            for (int h = 0; h < 36; h++) {
                CHECKS.is("11: " + h + " with " + over + " over", x.ran(h), h < over ? 1 : NONE);
            }
        }
        HeatMachines y = threeNeeded();
        y.run(2);
        CHECKS.is("11: all of three", y.ran(0), 7);
        CHECKS.is("11: the empty set is not NONE", y.ran(1), 0);
        CHECKS.is("11: not over", y.ran(2), NONE);
    }

    /** Promise 12. The bounds of its number. */
    private static void toldBounds() {
        CHECKS.bounds("12: what", 0, 3, v -> new HeatMachines().told(v));
        CHECKS.changesNothing("12: what 4", () -> Build.over(3), x -> x.told(4));
    }

    /** Promise 12. Nothing at first; at most three machines through all hours. */
    private static void toldEmptyAndFull() {
        for (int what = 0; what < 4; what++) {
            CHECKS.is("12: none is over", Build.over(0).told(what), 0);
        }
        long[] due = {10, 5, 5, 1};
        for (int what = 0; what < 4; what++) {
            CHECKS.is("12: the first is over", Build.over(1).told(what), due[what]);
            CHECKS.is("12: all are over", Build.over(36).told(what), 36 * due[what]);
        }
        HeatMachines x = new HeatMachines();
        for (int k = 0; k < 3; k++) {
            Build.flat(x, 4, 4, 100000, k == 0 ? 99998 : 1, 100000);
        }
        for (int h = 0; h < 36; h++) {
            x.hour(h, PRICE, 1000);
            x.hour(h, NEED, 100000);
        }
        x.run(36);
        CHECKS.is("12: the most cost", x.told(0), 36 * 300000000L + 300000);
        CHECKS.is("12: heat, not one too much", x.told(1), 3600000);
        CHECKS.is("12: the most need", x.told(2), 3600000);
        CHECKS.is("12: the most power", x.told(3), 10800000);
    }

    /** Promise 13. The bounds of its numbers. */
    private static void cornerBounds() {
        CHECKS.bounds("13: outside", -5000, 5000, v -> new HeatMachines().corner(v, 0));
        CHECKS.bounds("13: water", 0, 10000, v -> new HeatMachines().corner(0, v));
        CHECKS.changesNothing("13: outside -5001", HeatMachines::new, x -> x.corner(-5001, 1));
        CHECKS.changesNothing("13: water 10001", () -> corners(2), x -> x.corner(100, 10001));
        for (int water : new int[] {0, 10000}) {
            HeatMachines x = new HeatMachines();
            x.corner(0, water);
            CHECKS.is("13: water " + water, x.curve(0), water);
        }
    }

    /** Corners at 0, 10, 20 .. of water at 1, 2, 3 .. */
    private static HeatMachines corners(int count) {
        HeatMachines x = new HeatMachines();
        for (int i = 0; i < count; i++) {
            x.corner(10 * i, 1 + i);
        }
        return x;
    }

    /** Promise 13. "illegal state: it has 6". */
    private static void cornerWhenItHasSix() {
        CHECKS.is("13: the sixth", corners(5).corner(50, 5), 6);
        CHECKS.is("13: the sixth counts", corners(6).curve(50), 6);
        CHECKS.illegalState("13: a seventh above the last", () -> corners(6).corner(51, 5));
        CHECKS.illegalState("13: a seventh not above", () -> corners(6).corner(50, 5));
        CHECKS.illegalArgument("13: a seventh too warm", () -> corners(6).corner(5001, 5));
        CHECKS.illegalArgument("13: a seventh of no water", () -> corners(6).corner(51, -1));
        CHECKS.changesNothing("13: a seventh", () -> corners(6), x -> x.corner(51, 5));
    }

    /** Promise 13. "or the warmth is not above the last one's". */
    private static void cornerWhenNotAbove() {
        CHECKS.illegalState("13: the last one's warmth", () -> corners(3).corner(20, 5));
        CHECKS.illegalState("13: one below it", () -> corners(3).corner(19, 5));
        CHECKS.illegalState("13: the coldest", () -> corners(3).corner(-5000, 5));
        CHECKS.illegalArgument("13: too cold", () -> corners(3).corner(-5001, 5));
        CHECKS.illegalArgument("13: wrong water goes first", () -> corners(3).corner(20, 10001));
        CHECKS.is("13: one above it", corners(3).corner(21, 5), 4);
        CHECKS.changesNothing("13: not above", () -> corners(3), x -> x.corner(20, 50));
    }

    /** Promise 14. The bounds of its number. */
    private static void curveBounds() {
        for (int count : new int[] {0, 1, 2, 6}) {
            CHECKS.bounds("14: outside", -5000, 5000, v -> corners(count).curve(v));
        }
        CHECKS.changesNothing("14: outside 5001", () -> corners(2), x -> x.curve(5001));
    }

    /** Promise 14. "NONE without corners"; before the first and behind the last one that one's. */
    private static void curveEnds() {
        for (int w : new int[] {-5000, -1, 0, 1, 5000}) {
            CHECKS.is("14: without corners", new HeatMachines().curve(w), NONE);
        }
        for (int count = 1; count <= 6; count++) {
            HeatMachines x = corners(count);
            int last = 10 * (count - 1);
            for (int w : new int[] {-5000, -1, 0}) {
                CHECKS.is("14: before the first of " + count, x.curve(w), 1);
            }
            for (int w : new int[] {last, last + 1, 5000}) {
                CHECKS.is("14: behind the last of " + count, x.curve(w), count);
            }
            CHECKS.is("14: just before the last", x.curve(last - 1), Math.max(1, count - 1));
        }
    }

    /** Promise 15. The bounds of its number. */
    private static void groundBounds() {
        CHECKS.bounds("15: the first", 0, 1000, v -> new HeatMachines().ground(v));
        CHECKS.bounds("15: behind 500", 500, 1000, v -> table(500).ground(v));
        CHECKS.bounds("15: behind 1000", 1000, 1000, v -> table(1000).ground(v));
        CHECKS.bounds("15: behind 0", 0, 1000, v -> table(0).ground(v));
        CHECKS.changesNothing("15: -1", HeatMachines::new, x -> x.ground(-1));
        CHECKS.changesNothing("15: 1001", () -> table(5), x -> x.ground(1001));
    }

    /** A table with a load that shows it: the fall in hour h is G(h). */
    private static HeatMachines table(int... numbers) {
        HeatMachines x = new HeatMachines();
        for (int h = 0; h < 36; h++) {
            x.load(h, 1);
        }
        for (int g : numbers) {
            x.ground(g);
        }
        return x;
    }

    /** Promise 15. "Illegal argument: also if it is less than the one before". */
    private static void groundNotLess() {
        CHECKS.illegalArgument("15: one less", () -> table(1, 7).ground(6));
        CHECKS.illegalArgument("15: less, though not than the first", () -> table(1, 7).ground(1));
        CHECKS.illegalArgument("15: 0 behind 1", () -> table(1).ground(0));
        CHECKS.is("15: the same", table(1, 7).ground(7), 3);
        CHECKS.is("15: one more", table(1, 7).ground(8), 3);
        CHECKS.is("15: 0 behind 0", table(0).ground(0), 2);
        CHECKS.changesNothing("15: one less", () -> table(1, 7), x -> x.ground(6));
    }

    /** Promise 15. "illegal state: there are 36". */
    private static void groundWhenThereAreThirtySix() {
        HeatMachines x = table();
        for (int i = 0; i < 36; i++) {
            CHECKS.is("15: number " + i, x.ground(100 + i), i + 1);
        }
        CHECKS.illegalState("15: one more, the same", () -> x.ground(135));
        CHECKS.illegalState("15: one more, the most", () -> x.ground(1000));
        CHECKS.illegalArgument("15: one more, but less", () -> x.ground(134));
        CHECKS.illegalArgument("15: one more, too much", () -> x.ground(1001));
        CHECKS.illegalArgument("15: one more, too little", () -> x.ground(-1));
        for (int h = 0; h < 36; h++) {
            CHECKS.is("15: nothing changed", x.fall(h), 100 + h);
        }
        CHECKS.changesNothing("15: one more", CallsEdgeTest::fullTable, y -> y.ground(1000));
    }

    private static HeatMachines fullTable() {
        int[] numbers = new int[36];
        for (int i = 0; i < 36; i++) {
            numbers[i] = i * 20;
        }
        return table(numbers);
    }

    /** Promise 16. The bounds of its numbers. */
    private static void loadBounds() {
        CHECKS.bounds("16: hour", 0, 35, v -> new HeatMachines().load(v, 1));
        CHECKS.bounds("16: load", -1000, 1000, v -> new HeatMachines().load(35, v));
        CHECKS.changesNothing("16: hour 36", CallsEdgeTest::fullTable, x -> x.load(36, 5));
        CHECKS.changesNothing("16: load 1001", CallsEdgeTest::fullTable, x -> x.load(0, 1001));
        CHECKS.changesNothing("16: load -1001", CallsEdgeTest::fullTable, x -> x.load(35, -1001));
        HeatMachines x = new HeatMachines();
        CHECKS.is("16: 0 at first", x.load(35, -1000), 0);
        CHECKS.is("16: the least", x.load(35, 1000), -1000);
        CHECKS.is("16: the most", x.load(35, 0), 1000);
        CHECKS.is("16: the hour before is its own", x.load(34, 0), 0);
    }

    /** Promise 16 names no state: hours that are over have loads as others. */
    private static void loadWhenOver() {
        HeatMachines x = Build.over(36);
        CHECKS.is("16: the first one, over", x.load(0, 3), 0);
        CHECKS.is("16: the last one, over", x.load(35, 4), 0);
        CHECKS.is("16: the last one was", x.load(35, 5), 4);
    }

    /** Promise 17. The bounds of its number. */
    private static void fallBounds() {
        CHECKS.bounds("17: hour", 0, 35, v -> new HeatMachines().fall(v));
        CHECKS.bounds("17: hour with a table", 0, 35, v -> fullTable().fall(v));
        CHECKS.changesNothing("17: hour 36", CallsEdgeTest::fullTable, x -> x.fall(36));
    }

    /** Terms. "those behind being as the last one (0 without any)"; from hour 0 to the hour. */
    private static void fallByTheTable() {
        for (int h = 0; h < 36; h++) {
            CHECKS.is("17: without a table", table().fall(h), 0);
            CHECKS.is("17: one number", table(3).fall(h), 3);
            CHECKS.is("17: two numbers", table(3, 9).fall(h), h == 0 ? 3 : 9);
            CHECKS.is("17: all numbers", fullTable().fall(h), 20 * h);
        }
        HeatMachines x = new HeatMachines();
        x.ground(1000);
        x.load(35, 1000);
        CHECKS.is("17: what comes later does not tell", x.fall(34), 0);
        CHECKS.is("17: the hour's own load does", x.fall(35), 1000000);
        x.load(34, -1000);
        CHECKS.is("17: the least", x.fall(34), -1000000);
        CHECKS.is("17: down and up", x.fall(35), 1000000);
        HeatMachines y = fullTable();
        for (int h = 0; h < 36; h++) {
            y.load(h, h < 18 ? 1000 : -1000);
        }
        CHECKS.is("17: all that was laid over", y.fall(35), 1000 * 700 - 2000 * 340);
    }

    /** "An object is used for at most 512 calls": the last of them answers as the first one did. */
    private static void lastOfAllCalls() {
        HeatMachines x = Build.with(3);
        HeatMachines y = Build.with(3);
        for (int call = 10; call < 512; call++) {
            x.hour(call % 36, NEED, call % 15);
            if (call >= 512 - 36) {
                y.hour(call % 36, NEED, call % 15);
            }
        }
        CHECKS.is("512 calls: the last one", x.cost(), y.cost());
    }
}
