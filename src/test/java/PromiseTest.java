/** Each promise by hand: ordinary inputs, the edges that the document names, wrong inputs. */
public final class PromiseTest {
    private static final int NONE = HeatMachines.NONE;
    private static final int OUTSIDE = 0;
    private static final int PRICE = 1;
    private static final int NEED = 2;
    private static final int[] FAR = {Integer.MIN_VALUE, Integer.MAX_VALUE};
    private static final Checks CHECKS = new Checks();

    public static void main(String[] args) {
        newObject();
        machineNumbers();
        machineWrong();
        rowCounts();
        rowWrong();
        hourFacts();
        hourWrong();
        outages();
        outWrong();
        givesBetweenRows();
        givesWrong();
        costOrdinary();
        costEdges();
        costNone();
        plannedTies();
        plannedNone();
        leastRunBinds();
        leastPauseBinds();
        cannotBreaksRuns();
        earlyPausesCount();
        startsCounted();
        startsWrong();
        runPasses();
        runStops();
        runWrong();
        ranSets();
        toldSums();
        toldWrong();
        rowsAfterHours();
        corners();
        cornerWrong();
        curveBetween();
        groundTable();
        groundWrong();
        loads();
        falls();
        objectsApart();
        CHECKS.end("PromiseTest");
    }

    private static void plan(String what, HeatMachines x, int from, int... sets) {
        for (int i = 0; i < sets.length; i++) {
            CHECKS.is(what + ": planned(" + (from + i) + ")", x.planned(from + i), sets[i]);
        }
    }

    /** All that can be asked without a change, in one text. */
    private static String all(HeatMachines x, int machines) {
        StringBuilder text = new StringBuilder("cost " + x.cost());
        for (int k = 0; k < machines; k++) {
            text.append(" starts ").append(x.starts(k));
            for (int w = -5000; w <= 5000; w += 250) {
                text.append(' ').append(x.gives(k, w, 0)).append('/').append(x.gives(k, w, 1));
            }
        }
        for (int h = 0; h < 36; h++) {
            text.append(" h ").append(x.planned(h)).append(' ').append(x.ran(h));
            text.append(' ').append(x.fall(h));
        }
        for (int what = 0; what < 4; what++) {
            text.append(" told ").append(x.told(what));
        }
        for (int w = -5000; w <= 5000; w += 250) {
            text.append(" c ").append(x.curve(w));
        }
        return text.toString();
    }

    private static void newObject() {
        HeatMachines x = new HeatMachines();
        CHECKS.is("1: cost", x.cost(), 0);
        for (int h = 0; h < 36; h++) {
            int hour = h;
            CHECKS.is("1: planned", x.planned(h), 0);
            CHECKS.is("1: ran", x.ran(h), NONE);
            CHECKS.is("1: fall", x.fall(h), 0);
            CHECKS.is("1: outside", x.hour(h, OUTSIDE, 0), 0);
            CHECKS.is("1: price", x.hour(h, PRICE, 10), 10);
            CHECKS.is("1: need", x.hour(h, NEED, 0), 0);
            CHECKS.is("1: load", x.load(h, 0), 0);
            CHECKS.illegalArgument("1: no machine to be out", () -> x.out(0, hour, true));
        }
        for (int what = 0; what < 4; what++) {
            CHECKS.is("1: told", x.told(what), 0);
        }
        CHECKS.is("1: curve", x.curve(0), NONE);
        CHECKS.illegalArgument("1: no machine with starts", () -> x.starts(0));
        CHECKS.illegalArgument("1: no machine that gives", () -> x.gives(0, 0, 0));
        CHECKS.illegalArgument("1: no machine with rows", () -> x.row(0, 0, 0, 0));
    }

    private static void machineNumbers() {
        HeatMachines x = new HeatMachines();
        CHECKS.is("2: first", x.machine(1, 1, 0), 0);
        CHECKS.is("2: second", x.machine(4, 4, 100000), 1);
        CHECKS.is("2: third", x.machine(2, 3, 7), 2);
        CHECKS.is("2: without rows none can run", x.gives(2, 0, 0), NONE);
        CHECKS.is("2: nor starts", x.starts(2), 0);
        CHECKS.is("2: nor costs", x.cost(), 0);
    }

    private static void machineWrong() {
        HeatMachines x = new HeatMachines();
        for (int run : new int[] {0, 5, -1, FAR[0], FAR[1]}) {
            CHECKS.illegalArgument("2: run " + run, () -> x.machine(run, 1, 0));
            CHECKS.illegalArgument("2: pause " + run, () -> x.machine(1, run, 0));
        }
        for (int cents : new int[] {-1, 100001, FAR[0], FAR[1]}) {
            CHECKS.illegalArgument("2: cents " + cents, () -> x.machine(1, 1, cents));
        }
        CHECKS.illegalArgument("2: what throws makes no machine", () -> x.starts(0));
        CHECKS.is("2: numbers are not used up", x.machine(1, 1, 0), 0);
        x.machine(1, 1, 0);
        x.machine(1, 1, 0);
        CHECKS.illegalState("2: there are 3", () -> x.machine(1, 1, 0));
        CHECKS.illegalArgument("2: the argument comes first", () -> x.machine(0, 1, 0));
        CHECKS.illegalArgument("2: there is no fourth", () -> x.starts(3));
        HeatMachines y = new HeatMachines();
        y.run(1);
        CHECKS.illegalState("2: an hour is over", () -> y.machine(1, 1, 0));
        CHECKS.illegalArgument("2: the argument comes first then too", () -> y.machine(1, 1, -1));
    }

    private static void rowCounts() {
        HeatMachines x = new HeatMachines();
        x.machine(1, 1, 0);
        x.machine(1, 1, 0);
        for (int i = 0; i < 8; i++) {
            CHECKS.is("3: row", x.row(1, i - 5000, 100000 - i, i), i + 1);
        }
        CHECKS.is("3: other machines have their own", x.row(0, 5000, 0, 100000), 1);
        CHECKS.is("3: heat", x.gives(1, -4993, 0), 99993);
        CHECKS.is("3: power", x.gives(1, -4993, 1), 7);
        CHECKS.illegalState("3: it has 8", () -> x.row(1, 0, 1, 1));
        CHECKS.illegalArgument("3: the argument comes first", () -> x.row(1, 0, 1, 100001));
        CHECKS.is("3: no ninth row", x.gives(1, -4992, 0), NONE);
    }

    private static void rowWrong() {
        HeatMachines x = new HeatMachines();
        x.machine(1, 1, 0);
        for (int k : new int[] {-1, 1, 2, 3, FAR[0], FAR[1]}) {
            CHECKS.illegalArgument("3: machine " + k, () -> x.row(k, 0, 0, 0));
        }
        for (int w : new int[] {-5001, 5001, FAR[0], FAR[1]}) {
            CHECKS.illegalArgument("3: warmth " + w, () -> x.row(0, w, 0, 0));
        }
        for (int v : new int[] {-1, 100001, FAR[0], FAR[1]}) {
            CHECKS.illegalArgument("3: heat " + v, () -> x.row(0, 0, v, 0));
            CHECKS.illegalArgument("3: power " + v, () -> x.row(0, 0, 0, v));
        }
        CHECKS.is("3: nothing came of these", x.gives(0, 0, 0), NONE);
        CHECKS.is("3: the first row", x.row(0, 10, 5, 6), 1);
        CHECKS.illegalState("3: the same warmth", () -> x.row(0, 10, 7, 8));
        CHECKS.illegalState("3: a lower one", () -> x.row(0, -10, 7, 8));
        CHECKS.is("3: heat stays", x.gives(0, 10, 0), 5);
        CHECKS.is("3: power stays", x.gives(0, 10, 1), 6);
        CHECKS.is("3: the second row", x.row(0, 11, 7, 8), 2);
    }

    private static void hourFacts() {
        HeatMachines x = new HeatMachines();
        CHECKS.is("4: outside", x.hour(0, OUTSIDE, -5000), 0);
        CHECKS.is("4: outside was", x.hour(0, OUTSIDE, 5000), -5000);
        CHECKS.is("4: outside was", x.hour(0, OUTSIDE, 1), 5000);
        CHECKS.is("4: price", x.hour(35, PRICE, 0), 10);
        CHECKS.is("4: price was", x.hour(35, PRICE, 1000), 0);
        CHECKS.is("4: price was", x.hour(35, PRICE, 5), 1000);
        CHECKS.is("4: need", x.hour(35, NEED, 100000), 0);
        CHECKS.is("4: need was", x.hour(35, NEED, 0), 100000);
        CHECKS.is("4: other hours as they were", x.hour(34, PRICE, 10), 10);
        CHECKS.is("4: other facts as they were", x.hour(0, PRICE, 10), 10);
    }

    private static void hourWrong() {
        HeatMachines x = new HeatMachines();
        for (int h : new int[] {-1, 36, FAR[0], FAR[1]}) {
            CHECKS.illegalArgument("4: hour " + h, () -> x.hour(h, OUTSIDE, 0));
        }
        for (int what : new int[] {-1, 3, FAR[0], FAR[1]}) {
            CHECKS.illegalArgument("4: what " + what, () -> x.hour(0, what, 0));
        }
        int[][] wrong = {{-5001, 5001}, {-1, 1001}, {-1, 100001}};
        for (int what = 0; what < 3; what++) {
            int which = what;
            for (int v : new int[] {wrong[what][0], wrong[what][1], FAR[0], FAR[1]}) {
                CHECKS.illegalArgument("4: " + what + " at " + v, () -> x.hour(0, which, v));
            }
        }
        CHECKS.is("4: outside stays", x.hour(0, OUTSIDE, 3), 0);
        CHECKS.is("4: price stays", x.hour(0, PRICE, 3), 10);
        CHECKS.is("4: need stays", x.hour(1, NEED, 3), 0);
        x.hour(1, NEED, 0);
        x.run(1);
        CHECKS.illegalState("4: the hour is over", () -> x.hour(0, NEED, 3));
        CHECKS.illegalArgument("4: the argument comes first", () -> x.hour(0, NEED, -1));
        CHECKS.is("4: the next is not", x.hour(1, NEED, 4), 0);
    }

    private static void outages() {
        HeatMachines x = new HeatMachines();
        Build.flat(x, 1, 1, 0, 10, 1);
        Build.flat(x, 1, 1, 0, 10, 2);
        x.hour(3, NEED, 10);
        plan("5: before", x, 3, 1);
        CHECKS.is("5: was not", x.out(0, 3, true), false);
        plan("5: the other runs", x, 3, 2);
        CHECKS.is("5: gives does not look at it", x.gives(0, 0, 0), 10);
        CHECKS.is("5: was", x.out(0, 3, true), true);
        CHECKS.is("5: the other was not", x.out(1, 3, false), false);
        CHECKS.is("5: other hours were not", x.out(0, 2, false), false);
        CHECKS.is("5: was still", x.out(0, 3, false), true);
        plan("5: it runs again", x, 3, 1);
        CHECKS.is("5: the last hour", x.out(1, 35, true), false);
    }

    private static void outWrong() {
        HeatMachines x = new HeatMachines();
        Build.flat(x, 1, 1, 0, 10, 1);
        x.hour(1, NEED, 10);
        for (int k : new int[] {-1, 1, 2, 3, FAR[0], FAR[1]}) {
            CHECKS.illegalArgument("5: machine " + k, () -> x.out(k, 0, true));
        }
        for (int h : new int[] {-1, 36, FAR[0], FAR[1]}) {
            CHECKS.illegalArgument("5: hour " + h, () -> x.out(0, h, true));
        }
        x.run(1);
        CHECKS.illegalState("5: the hour is over", () -> x.out(0, 0, true));
        CHECKS.illegalState("5: also for what it is", () -> x.out(0, 0, false));
        CHECKS.illegalArgument("5: the argument comes first", () -> x.out(1, 0, true));
        CHECKS.is("5: the next is not over", x.out(0, 1, false), false);
        plan("5: nothing changed", x, 1, 1);
    }

    private static void givesBetweenRows() {
        HeatMachines x = new HeatMachines();
        x.machine(1, 1, 0);
        x.row(0, 0, 10, 10);
        CHECKS.is("6: at a lone row", x.gives(0, 0, 0), 10);
        CHECKS.is("6: beside it", x.gives(0, 1, 0), NONE);
        CHECKS.is("6: beside it", x.gives(0, -1, 1), NONE);
        x.row(0, 3, 11, 11);
        x.row(0, 6, 9, 9);
        CHECKS.is("6: rising heat down", x.gives(0, 2, 0), 10);
        CHECKS.is("6: rising power up", x.gives(0, 1, 1), 11);
        CHECKS.is("6: falling heat down", x.gives(0, 4, 0), 10);
        CHECKS.is("6: falling heat down", x.gives(0, 5, 0), 9);
        CHECKS.is("6: falling power up", x.gives(0, 4, 1), 11);
        CHECKS.is("6: falling power up", x.gives(0, 5, 1), 10);
        CHECKS.is("6: at a row between", x.gives(0, 3, 0), 11);
        CHECKS.is("6: at the last row", x.gives(0, 6, 1), 9);
        CHECKS.is("6: behind it", x.gives(0, 7, 0), NONE);
        x.machine(1, 1, 0);
        x.row(1, -5000, 100000, 0);
        x.row(1, 5000, 0, 100000);
        CHECKS.is("6: far falling heat", x.gives(1, 4999, 0), 10);
        CHECKS.is("6: far rising power", x.gives(1, 4999, 1), 99990);
        CHECKS.is("6: the outermost warmth", x.gives(1, -5000, 1), 0);
        CHECKS.is("6: no heat is some heat", x.gives(1, 5000, 0), 0);
        CHECKS.is("6: the other one cannot there", x.gives(0, 5000, 0), NONE);
    }

    private static void givesWrong() {
        HeatMachines x = new HeatMachines();
        Build.flat(x, 1, 1, 0, 1, 1);
        for (int k : new int[] {-1, 1, 2, 3, FAR[0], FAR[1]}) {
            CHECKS.illegalArgument("6: machine " + k, () -> x.gives(k, 0, 0));
        }
        for (int w : new int[] {-5001, 5001, FAR[0], FAR[1]}) {
            CHECKS.illegalArgument("6: warmth " + w, () -> x.gives(0, w, 0));
        }
        for (int what : new int[] {-1, 2, FAR[0], FAR[1]}) {
            CHECKS.illegalArgument("6: what " + what, () -> x.gives(0, 0, what));
        }
    }

    private static void costOrdinary() {
        HeatMachines x = new HeatMachines();
        Build.flat(x, 1, 1, 7, 10, 3);
        x.hour(5, NEED, 10);
        x.hour(5, PRICE, 4);
        CHECKS.is("7: power times price and a start", x.cost(), 19);
        x.hour(6, NEED, 1);
        CHECKS.is("7: no second start", x.cost(), 49);
        x.hour(8, NEED, 1);
        CHECKS.is("7: a second start is cheaper than an hour", x.cost(), 86);
        x.hour(7, PRICE, 2);
        CHECKS.is("7: an hour is cheaper than a second start", x.cost(), 85);
        Build.flat(x, 1, 1, 0, 1, 1);
        CHECKS.is("7: a cheaper machine", x.cost(), 39);
        x.run(6);
        CHECKS.is("7: what is over is not counted", x.cost(), 20);
    }

    private static void costEdges() {
        HeatMachines x = new HeatMachines();
        for (int k = 0; k < 3; k++) {
            Build.flat(x, 4, 4, 100000, 100000, 100000);
        }
        for (int h = 0; h < 36; h++) {
            x.hour(h, PRICE, 1000);
            x.hour(h, NEED, 100000);
        }
        CHECKS.is("7: one machine all day", x.cost(), 36L * 100000000L + 100000L);
        plan("7: the least set", x, 0, 1, 1);
        HeatMachines y = new HeatMachines();
        for (int k = 0; k < 3; k++) {
            Build.flat(y, 4, 4, 100000, 33334, 100000);
        }
        for (int h = 0; h < 36; h++) {
            y.hour(h, PRICE, 1000);
            y.hour(h, NEED, 100000);
        }
        CHECKS.is("7: three all day", y.cost(), 36L * 300000000L + 300000L);
        y.run(36);
        CHECKS.is("7: all hours are over", y.cost(), 0);
        CHECKS.is("12: three all day", y.told(0), 36L * 300000000L + 300000L);
        CHECKS.is("12: their heat", y.told(1), 36L * 100002L);
        CHECKS.is("12: the need", y.told(2), 3600000);
        CHECKS.is("12: their power", y.told(3), 10800000);
    }

    private static void costNone() {
        HeatMachines x = new HeatMachines();
        x.hour(35, NEED, 1);
        CHECKS.is("7: none without machines", x.cost(), NONE);
        Build.flat(x, 1, 1, 0, 9, 1);
        Build.flat(x, 1, 1, 0, 9, 1);
        CHECKS.is("7: one is enough", x.cost(), 10);
        x.hour(35, NEED, 18);
        CHECKS.is("7: just enough", x.cost(), 20);
        x.hour(35, NEED, 19);
        CHECKS.is("7: not enough", x.cost(), NONE);
        x.hour(35, NEED, 18);
        x.out(1, 35, true);
        CHECKS.is("7: one is out", x.cost(), NONE);
        CHECKS.is("9: no starts without a plan", x.starts(0), NONE);
    }

    private static void plannedTies() {
        HeatMachines x = new HeatMachines();
        Build.flat(x, 1, 1, 0, 5, 0);
        Build.flat(x, 1, 1, 0, 5, 0);
        Build.flat(x, 1, 1, 0, 5, 0);
        CHECKS.is("8: all is free", x.cost(), 0);
        plan("8: the least sets", x, 0, 0, 0, 0);
        x.hour(1, NEED, 5);
        x.hour(2, NEED, 6);
        x.hour(3, NEED, 11);
        plan("8: the least sets that are enough", x, 0, 0, 1, 3, 7, 0);
        x.out(0, 1, true);
        x.out(1, 2, true);
        plan("8: the least ones that can", x, 0, 0, 2, 5, 7, 0);
        HeatMachines y = new HeatMachines();
        Build.flat(y, 2, 1, 10, 5, 1);
        y.hour(1, NEED, 5);
        CHECKS.is("8: before or behind costs the same", y.cost(), 30);
        plan("8: the earlier hour has the least set", y, 0, 0, 1, 1, 0);
        // Pausing and starting again costs what running on costs: the pause has the least set.
        HeatMachines z = new HeatMachines();
        Build.flat(z, 1, 1, 20, 5, 2);
        z.hour(0, NEED, 5);
        z.hour(2, NEED, 5);
        CHECKS.is("8: a pause or none cost the same", z.cost(), 80);
        plan("8: the pause", z, 0, 1, 0, 1, 0);
    }

    private static void plannedNone() {
        HeatMachines x = new HeatMachines();
        Build.flat(x, 1, 1, 0, 5, 1);
        for (int h : new int[] {-1, 36, FAR[0], FAR[1]}) {
            CHECKS.illegalArgument("8: hour " + h, () -> x.planned(h));
        }
        x.run(2);
        plan("8: over or not", x, 0, NONE, NONE, 0);
        x.hour(20, NEED, 6);
        plan("8: no plan", x, 2, NONE, NONE, NONE);
        plan("8: no plan", x, 35, NONE);
        CHECKS.is("8: what ran stays", x.ran(1), 0);
        x.hour(20, NEED, 5);
        plan("8: a plan again", x, 19, 0, 1, 0);
    }

    private static void leastRunBinds() {
        for (int least = 1; least <= 4; least++) {
            HeatMachines x = new HeatMachines();
            Build.flat(x, least, 1, 0, 5, 1);
            x.hour(0, NEED, 1);
            CHECKS.is("terms: least run " + least, x.cost(), 10 * least);
            for (int h = 0; h < 6; h++) {
                plan("terms: least run " + least, x, h, h < least ? 1 : 0);
            }
            x.hour(0, NEED, 0);
            x.hour(35, NEED, 1);
            CHECKS.is("terms: the last hour may cut a run", x.cost(), 10);
        }
        HeatMachines y = new HeatMachines();
        Build.flat(y, 4, 1, 0, 5, 1);
        y.hour(0, NEED, 1);
        y.run(1);
        y.hour(1, PRICE, 1000);
        plan("terms: what ran binds", y, 1, 1, 1, 1, 0);
        y.run(2);
        plan("terms: and still", y, 3, 1, 0);
        y.run(1);
        plan("terms: and no more", y, 4, 0);
    }

    private static void leastPauseBinds() {
        for (int least = 1; least <= 4; least++) {
            HeatMachines x = new HeatMachines();
            Build.flat(x, 1, least, 0, 5, 1);
            x.hour(0, NEED, 1);
            x.hour(5, NEED, 1);
            CHECKS.is("terms: before hour 0 they paused long enough", x.planned(0), 1);
            CHECKS.is("terms: four hours are pause enough", x.cost(), 20);
            x.hour(5, NEED, 0);
            x.hour(4, NEED, 1);
            CHECKS.is("terms: least pause " + least, x.cost(), least < 4 ? 20 : 50);
            x.out(0, 2, true);
            x.out(0, 1, true);
            CHECKS.is("terms: out hours are pauses", x.cost(), least < 4 ? 20 : NONE);
        }
        HeatMachines y = new HeatMachines();
        Build.flat(y, 1, 3, 0, 5, 1);
        y.hour(0, NEED, 1);
        y.run(2);
        y.hour(3, NEED, 1);
        CHECKS.is("terms: the pause that was binds", y.cost(), NONE);
        y.hour(3, NEED, 0);
        y.hour(4, NEED, 1);
        CHECKS.is("terms: no longer than it must", y.cost(), 10);
    }

    private static void cannotBreaksRuns() {
        HeatMachines x = new HeatMachines();
        Build.flat(x, 4, 2, 100, 5, 1);
        x.hour(0, NEED, 1);
        x.out(0, 1, true);
        CHECKS.is("terms: out ends a run too early", x.cost(), 110);
        plan("terms: out ends a run too early", x, 0, 1, 0, 0, 0);
        x.hour(3, NEED, 1);
        plan("terms: a new run is a whole one", x, 0, 1, 0, 0, 1, 1, 1, 1, 0);
        CHECKS.is("terms: with a start of its own", x.starts(0), 2);
        x.hour(2, NEED, 1);
        CHECKS.is("terms: the pause binds behind it", x.cost(), NONE);
        HeatMachines y = new HeatMachines();
        y.machine(3, 1, 0);
        y.row(0, 0, 5, 1);
        y.hour(0, NEED, 1);
        y.hour(1, OUTSIDE, 1);
        plan("terms: too warm ends a run too", y, 0, 1, 0, 0);
        CHECKS.is("terms: and its cost", y.cost(), 10);
    }

    private static void earlyPausesCount() {
        HeatMachines x = new HeatMachines();
        Build.flat(x, 3, 2, 0, 5, 1);
        x.hour(0, NEED, 1);
        x.out(0, 1, true);
        x.out(0, 2, true);
        x.hour(3, NEED, 1);
        plan("terms: two hours out are a pause of two", x, 0, 1, 0, 0, 1, 1, 1, 0);
        x.run(2);
        x.out(0, 2, false);
        plan("terms: the outage counts when it is past", x, 2, 0, 1, 1, 1, 0);
    }

    private static void startsCounted() {
        HeatMachines x = new HeatMachines();
        Build.flat(x, 1, 1, 0, 5, 1);
        Build.flat(x, 1, 1, 0, 50, 9);
        for (int h : new int[] {0, 1, 5, 35}) {
            x.hour(h, NEED, 5);
        }
        x.hour(9, NEED, 50);
        CHECKS.is("9: starts", x.starts(0), 3);
        CHECKS.is("9: the other's", x.starts(1), 1);
        x.run(1);
        CHECKS.is("9: it runs already", x.starts(0), 2);
        x.run(4);
        CHECKS.is("9: it does not run", x.starts(0), 2);
        x.run(30);
        CHECKS.is("9: one is left", x.starts(0), 1);
        x.run(1);
        CHECKS.is("9: none is left", x.starts(0), 0);
        CHECKS.is("9: nor of the other", x.starts(1), 0);
    }

    private static void startsWrong() {
        HeatMachines x = new HeatMachines();
        Build.flat(x, 1, 1, 0, 5, 1);
        for (int k : new int[] {-1, 1, 2, 3, FAR[0], FAR[1]}) {
            CHECKS.illegalArgument("9: machine " + k, () -> x.starts(k));
        }
        x.hour(0, NEED, 6);
        CHECKS.is("9: no plan", x.starts(0), NONE);
        CHECKS.illegalArgument("9: the argument comes first", () -> x.starts(1));
    }

    private static void runPasses() {
        HeatMachines x = new HeatMachines();
        Build.flat(x, 2, 2, 5, 5, 1);
        x.hour(4, NEED, 5);
        CHECKS.is("10: one", x.run(1), 1);
        CHECKS.is("10: some", x.run(4), 5);
        CHECKS.is("10: as planned", x.ran(4), 1);
        CHECKS.is("10: the run goes on", x.planned(5), 1);
        CHECKS.is("10: what is left costs", x.cost(), 10);
        CHECKS.is("10: more than there are", x.run(36), 36);
        CHECKS.is("10: none is left", x.run(1), 36);
        CHECKS.is("10: all", new HeatMachines().run(36), 36);
        // The plan is looked at anew when something has changed between two runs.
        HeatMachines y = new HeatMachines();
        Build.flat(y, 1, 1, 0, 5, 1);
        Build.flat(y, 1, 1, 0, 5, 2);
        y.hour(1, NEED, 5);
        y.run(1);
        y.out(0, 1, true);
        y.run(1);
        CHECKS.is("10: as the plan is then", y.ran(1), 2);
    }

    private static void runStops() {
        HeatMachines x = new HeatMachines();
        Build.flat(x, 1, 1, 0, 5, 1);
        x.hour(7, NEED, 6);
        CHECKS.is("10: no plan, no hour", x.run(3), 0);
        CHECKS.is("10: none ran", x.ran(0), NONE);
        x.hour(7, NEED, 5);
        CHECKS.is("10: a plan", x.run(3), 3);
        x.out(0, 7, true);
        CHECKS.is("10: no plan any more", x.run(36), 3);
        CHECKS.is("10: the next did not run", x.ran(3), NONE);
    }

    private static void runWrong() {
        HeatMachines x = new HeatMachines();
        for (int n : new int[] {0, -1, 37, FAR[0], FAR[1]}) {
            CHECKS.illegalArgument("10: " + n + " hours", () -> x.run(n));
        }
        CHECKS.is("10: none passed", x.ran(0), NONE);
        x.run(36);
        CHECKS.illegalArgument("10: also when all are over", () -> x.run(0));
    }

    private static void ranSets() {
        HeatMachines x = new HeatMachines();
        Build.flat(x, 1, 1, 0, 5, 1);
        Build.flat(x, 1, 1, 0, 5, 2);
        Build.flat(x, 1, 1, 0, 5, 3);
        int[] needs = {5, 10, 15, 0, 1};
        int[] sets = {1, 3, 7, 0, 1};
        for (int h = 0; h < 5; h++) {
            x.hour(h, NEED, needs[h]);
        }
        CHECKS.is("11: not over", x.ran(0), NONE);
        x.run(5);
        for (int h = 0; h < 5; h++) {
            CHECKS.is("11: ran", x.ran(h), sets[h]);
        }
        CHECKS.is("11: not over", x.ran(5), NONE);
        CHECKS.is("11: the last", x.ran(35), NONE);
        for (int h : new int[] {-1, 36, FAR[0], FAR[1]}) {
            CHECKS.illegalArgument("11: hour " + h, () -> x.ran(h));
        }
    }

    private static void toldSums() {
        HeatMachines x = new HeatMachines();
        x.machine(2, 1, 7);
        x.row(0, 0, 10, 10);
        x.row(0, 3, 11, 11);
        x.hour(0, OUTSIDE, 2);
        x.hour(0, NEED, 9);
        x.hour(0, PRICE, 3);
        x.hour(2, NEED, 10);
        x.hour(2, PRICE, 1000);
        x.hour(1, PRICE, 0);
        x.run(1);
        CHECKS.is("12: cost", x.told(0), 11 * 3 + 7);
        CHECKS.is("12: heat", x.told(1), 10);
        CHECKS.is("12: need", x.told(2), 9);
        CHECKS.is("12: power", x.told(3), 11);
        x.run(1);
        CHECKS.is("12: a run goes on without a start", x.told(0), 40);
        CHECKS.is("12: heat that none needs is given too", x.told(1), 20);
        CHECKS.is("12: need", x.told(2), 9);
        CHECKS.is("12: power", x.told(3), 21);
        x.run(1);
        CHECKS.is("12: cost", x.told(0), 10040);
        CHECKS.is("12: need", x.told(2), 19);
        x.run(1);
        CHECKS.is("12: a pause costs nothing", x.told(0), 10040);
    }

    private static void toldWrong() {
        HeatMachines x = new HeatMachines();
        for (int what : new int[] {-1, 4, FAR[0], FAR[1]}) {
            CHECKS.illegalArgument("12: what " + what, () -> x.told(what));
        }
    }

    private static void rowsAfterHours() {
        HeatMachines x = new HeatMachines();
        x.machine(1, 1, 0);
        x.row(0, 0, 5, 1);
        x.hour(0, NEED, 5);
        x.run(1);
        x.hour(4, OUTSIDE, 10);
        x.hour(4, NEED, 4);
        CHECKS.is("3: too warm", x.cost(), NONE);
        CHECKS.is("3: a row when hours are over", x.row(0, 10, 4, 2), 2);
        CHECKS.is("3: warm enough", x.cost(), 20);
        CHECKS.is("3: what was told stays", x.told(0), 10);
    }

    private static void corners() {
        HeatMachines x = new HeatMachines();
        int[] waters = {10000, 0, 5, 5, 9999, 1};
        for (int i = 0; i < 6; i++) {
            CHECKS.is("13: corner", x.corner(i == 5 ? 5000 : -5000 + i, waters[i]), i + 1);
        }
        CHECKS.is("13: the first", x.curve(-5000), 10000);
        CHECKS.is("13: the last", x.curve(5000), 1);
        String before = all(x, 0);
        CHECKS.illegalState("13: it has 6", () -> x.corner(5000, 1));
        CHECKS.illegalArgument("13: the argument comes first", () -> x.corner(5001, 1));
        CHECKS.is("13: nothing changed", all(x, 0), before);
        HeatMachines y = new HeatMachines();
        for (int i = 0; i < 6; i++) {
            y.corner(i, 0);
        }
        CHECKS.illegalState("13: it has 6, and the warmth is above", () -> y.corner(6, 1));
        CHECKS.is("13: no seventh", y.curve(6), 0);
    }

    private static void cornerWrong() {
        HeatMachines x = new HeatMachines();
        x.corner(100, 50);
        for (int w : new int[] {-5001, 5001, FAR[0], FAR[1]}) {
            CHECKS.illegalArgument("13: warmth " + w, () -> x.corner(w, 0));
        }
        for (int water : new int[] {-1, 10001, FAR[0], FAR[1]}) {
            CHECKS.illegalArgument("13: water " + water, () -> x.corner(200, water));
        }
        CHECKS.illegalState("13: the same warmth", () -> x.corner(100, 60));
        CHECKS.illegalState("13: a lower one", () -> x.corner(99, 60));
        CHECKS.illegalArgument("13: the argument comes first", () -> x.corner(100, -1));
        CHECKS.is("13: nothing changed", x.curve(200), 50);
        CHECKS.is("13: the second", x.corner(101, 60), 2);
    }

    private static void curveBetween() {
        HeatMachines x = new HeatMachines();
        CHECKS.is("14: without corners", x.curve(5000), NONE);
        x.corner(-3, 10);
        CHECKS.is("14: a lone corner", x.curve(-5000), 10);
        CHECKS.is("14: a lone corner", x.curve(5000), 10);
        x.corner(0, 11);
        x.corner(3, 9);
        int[] due = {10, 10, 10, 10, 11, 10, 9, 9, 9};
        for (int w = -4; w <= 4; w++) {
            CHECKS.is("14: at " + w, x.curve(w), due[w + 4]);
        }
        for (int w : new int[] {-5001, 5001, FAR[0], FAR[1]}) {
            CHECKS.illegalArgument("14: warmth " + w, () -> x.curve(w));
        }
    }

    private static void groundTable() {
        HeatMachines x = new HeatMachines();
        for (int h = 0; h < 36; h++) {
            x.load(h, 1);
        }
        for (int i = 0; i < 36; i++) {
            CHECKS.is("15: number", x.ground(i == 35 ? 1000 : i * i / 2), i + 1);
        }
        for (int h = 0; h < 36; h++) {
            CHECKS.is("15: as laid down", x.fall(h), h == 35 ? 1000 : h * h / 2);
        }
        CHECKS.illegalState("15: there are 36", () -> x.ground(1000));
        CHECKS.illegalArgument("15: the argument comes first", () -> x.ground(999));
        CHECKS.illegalArgument("15: the argument comes first", () -> x.ground(1001));
        CHECKS.is("15: nothing changed", x.fall(35), 1000);
    }

    private static void groundWrong() {
        HeatMachines x = new HeatMachines();
        for (int h = 0; h < 36; h++) {
            x.load(h, 1);
        }
        for (int g : new int[] {-1, 1001, FAR[0], FAR[1]}) {
            CHECKS.illegalArgument("15: " + g, () -> x.ground(g));
        }
        CHECKS.is("15: 0 may be the first", x.ground(0), 1);
        CHECKS.is("15: a rise", x.ground(500), 2);
        CHECKS.is("15: the same", x.ground(500), 3);
        CHECKS.illegalArgument("15: less than the one before", () -> x.ground(499));
        CHECKS.is("15: nothing changed", x.fall(35), 500);
        CHECKS.is("15: the most", x.ground(1000), 4);
    }

    private static void loads() {
        HeatMachines x = new HeatMachines();
        CHECKS.is("16: was", x.load(0, 1000), 0);
        CHECKS.is("16: was", x.load(0, -1000), 1000);
        CHECKS.is("16: was", x.load(0, 5), -1000);
        CHECKS.is("16: other hours", x.load(35, 7), 0);
        for (int h : new int[] {-1, 36, FAR[0], FAR[1]}) {
            CHECKS.illegalArgument("16: hour " + h, () -> x.load(h, 0));
        }
        for (int q : new int[] {-1001, 1001, FAR[0], FAR[1]}) {
            CHECKS.illegalArgument("16: load " + q, () -> x.load(0, q));
        }
        CHECKS.is("16: nothing changed", x.load(0, 6), 5);
        x.run(36);
        CHECKS.is("16: hours that are over have loads too", x.load(0, 9), 6);
        x.ground(2);
        CHECKS.is("17: and falls", x.fall(0), 18);
    }

    private static void falls() {
        HeatMachines x = new HeatMachines();
        x.load(0, 4);
        CHECKS.is("17: 0 without a table", x.fall(0), 0);
        x.ground(1);
        x.ground(3);
        x.load(1, 4);
        x.load(2, -2);
        CHECKS.is("17: the first step", x.fall(0), 4);
        CHECKS.is("17: no step", x.fall(1), 12);
        CHECKS.is("17: a step down", x.fall(2), 12 - 6);
        CHECKS.is("17: behind the table as the last one", x.fall(3), 12 - 18 + 2);
        CHECKS.is("17: nothing is left", x.fall(4), 12 - 18 + 6);
        HeatMachines y = new HeatMachines();
        y.ground(1000);
        for (int h = 0; h < 36; h++) {
            y.load(h, h % 2 == 0 ? -1000 : 1000);
        }
        CHECKS.is("17: the least", y.fall(34), -1000000);
        CHECKS.is("17: the most", y.fall(35), 1000000);
        for (int h : new int[] {-1, 36, FAR[0], FAR[1]}) {
            CHECKS.illegalArgument("17: hour " + h, () -> x.fall(h));
        }
    }

    private static void objectsApart() {
        HeatMachines x = new HeatMachines();
        Build.flat(x, 1, 1, 0, 5, 1);
        x.hour(0, NEED, 5);
        x.corner(0, 1);
        x.ground(1);
        x.load(0, 1);
        x.run(1);
        HeatMachines y = new HeatMachines();
        CHECKS.is("1: a new object knows nothing of others", all(y, 0), all(new HeatMachines(), 0));
        CHECKS.is("1: nor has it their machines", y.machine(1, 1, 0), 0);
        CHECKS.is("1: nor their rows", y.gives(0, 0, 0), NONE);
    }
}
