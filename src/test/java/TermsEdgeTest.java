/** The terms' boundary cases: the map between its rows, what binds a machine, and the best plan. */
public final class TermsEdgeTest {
    private static final int NONE = HeatMachines.NONE;
    private static final int OUTSIDE = 0;
    private static final int PRICE = 1;
    private static final int NEED = 2;
    private static final Checks CHECKS = new Checks();

    public static void main(String[] args) {
        atARow();
        betweenRows();
        betweenRowsOfTheMostApart();
        atOtherWarmthsItCannot();
        withoutRowsItCannot();
        outItCannot();
        beforeHourZeroNoneRuns();
        beforeHourZeroAllPaused();
        leastRunBinds();
        leastRunBindsFromHoursOver();
        leastRunEndsWithTheHours();
        leastPauseBinds();
        leastPauseBindsFromHoursOver();
        cannotGoesBeforeLeastRun();
        cannotIsAPause();
        cannotAfterAPause();
        aBrokenRunBeginsAnew();
        eachIsBoundToRunByItself();
        eachIsBoundToPauseByItself();
        mustRunThoughNotNeeded();
        heatNotLessThanNeed();
        heatOfThoseThatRun();
        costOfAnHour();
        costOfStarts();
        theLeastCost();
        everySetCanBeBest();
        theLeastSetFirst();
        theLeastSetInTheFirstHour();
        freeHeatIsNotTaken();
        curveBetweenCorners();
        fallFromHourToHour();
        CHECKS.end("TermsEdgeTest");
    }

    private static HeatMachines mapped(int... rows) {
        HeatMachines x = new HeatMachines();
        x.machine(1, 1, 0);
        for (int i = 0; i + 2 < rows.length; i += 3) {
            x.row(0, rows[i], rows[i + 1], rows[i + 2]);
        }
        return x;
    }

    private static HeatMachines one(int run, int pause, int cents) {
        HeatMachines x = new HeatMachines();
        Build.flat(x, run, pause, cents, 5, 1);
        return x;
    }

    private static void need(HeatMachines x, int... hours) {
        for (int h : hours) {
            x.hour(h, NEED, 5);
        }
    }

    private static void out(HeatMachines x, int... hours) {
        for (int h : hours) {
            x.out(0, h, true);
        }
    }

    /** The sets from an hour on, a digit each; N for NONE. */
    private static void plan(String what, HeatMachines x, int from, String due) {
        StringBuilder sets = new StringBuilder();
        for (int h = from; h < from + due.length(); h++) {
            int set = x.planned(h);
            sets.append(set == NONE ? "N" : Integer.toString(set));
        }
        CHECKS.is(what, sets.toString(), due);
    }

    /** "At a row's warmth it gives that heat for that power". */
    private static void atARow() {
        HeatMachines x = mapped(-5000, 7, 8, -4999, 100000, 0, 0, 3, 4, 4999, 0, 100000, 5000, 1, 2);
        int[][] due = {{-5000, 7, 8}, {-4999, 100000, 0}, {0, 3, 4}, {4999, 0, 100000}, {5000, 1, 2}};
        for (int[] row : due) {
            CHECKS.is("heat at " + row[0], x.gives(0, row[0], 0), row[1]);
            CHECKS.is("power at " + row[0], x.gives(0, row[0], 1), row[2]);
        }
    }

    /** "for heat rounded down to the next whole number, for power rounded up". */
    private static void betweenRows() {
        int[][] due = {{0, 0, 0}, {1, 0, 1}, {2, 0, 1}, {3, 0, 1}, {4, 1, 1}, {5, 0, 1}, {6, 0, 1},
            {7, 0, 1}, {8, 0, 0}};
        HeatMachines x = mapped(0, 0, 0, 4, 1, 1, 8, 0, 0);
        for (int[] row : due) {
            CHECKS.is("heat at " + row[0], x.gives(0, row[0], 0), row[1]);
            CHECKS.is("power at " + row[0], x.gives(0, row[0], 1), row[2]);
        }
        HeatMachines y = mapped(-10, 100, 200, 10, 140, 160);
        for (int w = -10; w <= 10; w++) {
            CHECKS.is("whole heat at " + w, y.gives(0, w, 0), 120 + 2 * w);
            CHECKS.is("whole power at " + w, y.gives(0, w, 1), 180 - 2 * w);
        }
        HeatMachines z = mapped(-3, 10, 20, 0, 11, 21, 3, 9, 19);
        int[] heats = {10, 10, 10, 11, 10, 9, 9};
        int[] powers = {20, 21, 21, 21, 21, 20, 19};
        for (int w = -3; w <= 3; w++) {
            CHECKS.is("heat at " + w, z.gives(0, w, 0), heats[w + 3]);
            CHECKS.is("power at " + w, z.gives(0, w, 1), powers[w + 3]);
        }
    }

    /** The largest numbers in "a + (b - a) * (w - s) / (t - s)". */
    private static void betweenRowsOfTheMostApart() {
        HeatMachines x = mapped(-5000, 0, 100000, 5000, 100000, 0);
        HeatMachines y = mapped(-5000, 100000, 0, 5000, 0, 100000);
        for (int w : new int[] {-5000, -4999, -1, 0, 1, 4999, 5000}) {
            int up = 10 * (w + 5000);
            CHECKS.is("rising heat at " + w, x.gives(0, w, 0), up);
            CHECKS.is("falling power at " + w, x.gives(0, w, 1), 100000 - up);
            CHECKS.is("falling heat at " + w, y.gives(0, w, 0), 100000 - up);
            CHECKS.is("rising power at " + w, y.gives(0, w, 1), up);
        }
        HeatMachines z = mapped(-5000, 100000, 99999, 4999, 0, 0);
        CHECKS.is("heat 1 behind", z.gives(0, -4999, 0), 99989);
        CHECKS.is("power 1 behind", z.gives(0, -4999, 1), 99989);
        CHECKS.is("heat 1 before", z.gives(0, 4998, 0), 10);
        CHECKS.is("power 1 before", z.gives(0, 4998, 1), 11);
    }

    /** "at others, or without rows, it CANNOT run". */
    private static void atOtherWarmthsItCannot() {
        HeatMachines x = mapped(10, 5, 1, 20, 5, 1);
        int[][] due = {{9, NONE}, {10, 10}, {11, 10}, {19, 10}, {20, 10}, {21, NONE}};
        for (int[] each : due) {
            x.hour(0, OUTSIDE, each[0]);
            x.hour(0, NEED, 5);
            CHECKS.is("cost at " + each[0], x.cost(), each[1]);
        }
        HeatMachines y = mapped(10, 5, 1);
        y.hour(0, NEED, 5);
        for (int w = 9; w <= 11; w++) {
            y.hour(0, OUTSIDE, w);
            CHECKS.is("cost with a lone row, at " + w, y.cost(), w == 10 ? 10 : NONE);
        }
    }

    private static void withoutRowsItCannot() {
        HeatMachines x = new HeatMachines();
        x.machine(1, 1, 0);
        x.hour(0, NEED, 1);
        CHECKS.is("without rows", x.cost(), NONE);
        x.row(0, 0, 1, 1);
        CHECKS.is("with one", x.cost(), 10);
    }

    /** "It CANNOT run either in hours in which it is OUT." */
    private static void outItCannot() {
        for (int h : new int[] {0, 17, 35}) {
            HeatMachines x = one(1, 1, 0);
            need(x, h);
            x.out(0, h, true);
            CHECKS.is("out in " + h, x.cost(), NONE);
            x.out(0, h, false);
            CHECKS.is("not out in " + h, x.cost(), 10);
            x.out(0, h == 35 ? 34 : h + 1, true);
            CHECKS.is("out beside " + h, x.cost(), 10);
        }
    }

    /** "Before hour 0 none runs": in hour 0 a machine starts. */
    private static void beforeHourZeroNoneRuns() {
        HeatMachines x = one(1, 1, 100000);
        need(x, 0);
        CHECKS.is("a start in hour 0", x.starts(0), 1);
        CHECKS.is("its cents", x.cost(), 100010);
        CHECKS.is("it need not run on", one(4, 4, 0).planned(0), 0);
    }

    /** "and all have paused long enough". */
    private static void beforeHourZeroAllPaused() {
        for (int pause = 1; pause <= 4; pause++) {
            for (int h = 0; h < 4; h++) {
                HeatMachines x = one(1, pause, 0);
                need(x, h);
                CHECKS.is("least pause " + pause + ", hour " + h, x.cost(), 10);
            }
            HeatMachines y = one(1, pause, 0);
            out(y, 0);
            need(y, 1);
            CHECKS.is("and out in hour 0", y.cost(), 10);
        }
    }

    /** "has not yet run as many hours as its LEAST RUN, one after the other, it must run". */
    private static void leastRunBinds() {
        String[] due = {"010000", "011000", "011100", "011110"};
        for (int run = 1; run <= 4; run++) {
            HeatMachines x = one(run, 4, 0);
            need(x, 1);
            // Dear hours before, so that no plan starts early.
            x.hour(0, PRICE, 1000);
            for (int h = 2; h < 5; h++) {
                x.hour(h, PRICE, 900);
            }
            plan("least run " + run, x, 0, due[run - 1]);
            CHECKS.is("its cost", x.cost(), 10 + 900 * (run - 1));
            CHECKS.is("one start", x.starts(0), 1);
        }
    }

    private static void leastRunBindsFromHoursOver() {
        for (int run = 1; run <= 4; run++) {
            HeatMachines x = one(run, 1, 0);
            need(x, 0);
            for (int h = 0; h < 6; h++) {
                CHECKS.is("least run " + run + ", hour " + h, x.planned(h), h < run ? 1 : 0);
                x.run(1);
                CHECKS.is("as planned", x.ran(h), h < run ? 1 : 0);
            }
            CHECKS.is("what it took", x.told(3), run);
        }
    }

    /** A plan has no hours behind the last one: a run that starts late need not be whole. */
    private static void leastRunEndsWithTheHours() {
        for (int h = 32; h < 36; h++) {
            HeatMachines x = one(4, 1, 0);
            need(x, h);
            x.hour(h - 1, PRICE, 1000);
            CHECKS.is("start in " + h, x.cost(), 10 * (36 - h));
        }
    }

    /** "has not yet paused as many hours, one after the other, as its LEAST PAUSE, it must not". */
    private static void leastPauseBinds() {
        for (int pause = 1; pause <= 4; pause++) {
            for (int gap = 1; gap <= 5; gap++) {
                HeatMachines x = one(1, pause, 0);
                need(x, 3, 4 + gap);
                boolean mayPause = gap >= pause;
                CHECKS.is("least pause " + pause + ", gap " + gap, x.cost(),
                        mayPause ? 20 : 20 + 10 * gap);
                CHECKS.is("starts", x.starts(0), mayPause ? 2 : 1);
            }
        }
    }

    private static void leastPauseBindsFromHoursOver() {
        for (int pause = 1; pause <= 4; pause++) {
            for (int paused = 1; paused <= 5; paused++) {
                HeatMachines x = one(1, pause, 0);
                need(x, 0);
                x.run(1 + paused);
                need(x, 1 + paused);
                CHECKS.is("least pause " + pause + ", paused " + paused, x.cost(),
                        paused >= pause ? 10 : NONE);
            }
        }
    }

    /** "It must not run in an hour in which it CANNOT": also if it has not run long enough. */
    private static void cannotGoesBeforeLeastRun() {
        for (int ran = 1; ran <= 3; ran++) {
            HeatMachines x = one(4, 1, 0);
            need(x, 0);
            out(x, ran);
            plan("out after " + ran, x, 0, "1110000".substring(3 - ran, 7));
            CHECKS.is("cost", x.cost(), 10 * ran);
            HeatMachines y = mapped(0, 5, 1);
            y.hour(ran, OUTSIDE, 1);
            CHECKS.is("too warm is no better", y.planned(ran), 0);
        }
        HeatMachines z = one(4, 1, 0);
        need(z, 0);
        z.run(2);
        out(z, 2);
        plan("out when it has run 2", z, 2, "000");
        z.hour(2, NEED, 1);
        CHECKS.is("it cannot help", z.cost(), NONE);
    }

    /** "Hours in which it CANNOT run are pauses like others, also too early ones." */
    private static void cannotIsAPause() {
        for (int pause = 1; pause <= 4; pause++) {
            for (int outages = 1; outages <= 5; outages++) {
                HeatMachines x = one(4, pause, 0);
                need(x, 0);
                for (int h = 1; h <= outages; h++) {
                    x.out(0, h, true);
                }
                need(x, 1 + outages);
                long due = outages >= pause ? 50 : NONE;
                CHECKS.is("least pause " + pause + ", out for " + outages, x.cost(), due);
            }
        }
        HeatMachines y = one(1, 3, 0);
        need(y, 0, 4);
        out(y, 2);
        CHECKS.is("out amid a pause", y.cost(), 20);
        HeatMachines z = one(1, 3, 0);
        need(z, 0, 3);
        out(z, 2);
        CHECKS.is("out amid too short a pause", z.cost(), NONE);
    }

    /** A machine that has paused too short is bound behind an outage by what is left. */
    private static void cannotAfterAPause() {
        HeatMachines x = one(1, 3, 0);
        need(x, 0);
        x.run(2);
        out(x, 2);
        need(x, 3);
        CHECKS.is("one hour and one out are two", x.cost(), NONE);
        x.hour(3, NEED, 0);
        need(x, 4);
        CHECKS.is("one, one out and one are three", x.cost(), 10);
    }

    /** What was run before an outage does not count for the run behind it. */
    private static void aBrokenRunBeginsAnew() {
        HeatMachines x = one(3, 1, 7);
        need(x, 0, 3);
        out(x, 2);
        plan("two, out, three", x, 0, "11011100");
        CHECKS.is("two starts", x.starts(0), 2);
        CHECKS.is("their cost", x.cost(), 64);
        x.run(3);
        plan("behind the outage", x, 3, "11100");
        CHECKS.is("one start", x.starts(0), 1);
    }

    /** Three machines that start together end one after the other, in any order of theirs. */
    private static void eachIsBoundToRunByItself() {
        int[][] runs = {{2, 3, 4}, {4, 3, 2}, {1, 4, 1}, {4, 1, 4}, {3, 3, 3}, {4, 4, 4}};
        String[] due = {"776400", "773100", "722200", "755500", "777000", "777700"};
        for (int i = 0; i < runs.length; i++) {
            HeatMachines x = new HeatMachines();
            for (int k = 0; k < 3; k++) {
                Build.flat(x, runs[i][k], 1, 0, 5, 1);
            }
            x.hour(0, NEED, 15);
            plan("least runs, case " + i, x, 0, due[i]);
            x.run(2);
            plan("least runs when two hours are over, case " + i, x, 2, due[i].substring(2));
        }
    }

    /** Three machines that ran together may run again one after the other. */
    private static void eachIsBoundToPauseByItself() {
        int[][] pauses = {{1, 2, 3}, {3, 2, 1}, {4, 1, 4}, {1, 4, 1}, {4, 4, 4}};
        for (int[] pause : pauses) {
            for (int paused = 1; paused <= 4; paused++) {
                HeatMachines x = new HeatMachines();
                int due = 0;
                for (int k = 0; k < 3; k++) {
                    Build.flat(x, 1, pause[k], 0, 1 << k, 1);
                    due += paused >= pause[k] ? 1 << k : 0;
                }
                x.hour(0, NEED, 7);
                x.run(1 + paused);
                String what = "pauses " + pause[0] + pause[1] + pause[2] + ", paused " + paused;
                x.hour(1 + paused, NEED, due);
                CHECKS.is(what, x.planned(1 + paused), due);
                x.hour(1 + paused, NEED, due + 1);
                CHECKS.is(what + ", no more", x.planned(1 + paused), NONE);
            }
        }
    }

    /** A machine that must run runs though its heat is not needed, and costs. */
    private static void mustRunThoughNotNeeded() {
        HeatMachines x = one(2, 1, 0);
        Build.flat(x, 1, 1, 0, 5, 2);
        need(x, 0, 1);
        plan("the one that must goes on", x, 0, "110");
        x.hour(1, PRICE, 1000);
        x.hour(1, NEED, 0);
        plan("the other has no such bond", x, 0, "200");
        x.run(1);
        CHECKS.is("dearer now, cheaper then", x.told(0), 20);
    }

    /** "the heat of those that run is not less than the NEED". */
    private static void heatNotLessThanNeed() {
        HeatMachines x = Build.with(3);
        int[][] due = {{0, 0}, {1, 1}, {4, 1}, {5, 1}, {6, 3}, {10, 3}, {11, 7}, {15, 7}, {16, NONE}};
        for (int h : new int[] {0, 35}) {
            for (int[] each : due) {
                x.hour(h, NEED, each[0]);
                CHECKS.is("need " + each[0] + " in " + h, x.planned(h), each[1]);
            }
            x.hour(h, NEED, 0);
        }
    }

    /** Rounded down, heat may be just too little. */
    private static void heatOfThoseThatRun() {
        HeatMachines x = mapped(0, 10, 10, 3, 11, 11);
        x.hour(0, OUTSIDE, 2);
        x.hour(0, NEED, 10);
        CHECKS.is("power is rounded up", x.cost(), 110);
        x.hour(0, NEED, 11);
        CHECKS.is("heat is rounded down", x.cost(), NONE);
        x.hour(0, OUTSIDE, 3);
        CHECKS.is("a little warmer", x.cost(), 110);
    }

    /** "for each hour, the power of those that run times the PRICE". */
    private static void costOfAnHour() {
        HeatMachines x = Build.with(3);
        x.hour(4, NEED, 15);
        for (int price : new int[] {0, 1, 10, 999, 1000}) {
            x.hour(4, PRICE, price);
            CHECKS.is("three at " + price, x.cost(), 3 * price);
        }
        HeatMachines y = new HeatMachines();
        for (int k = 0; k < 3; k++) {
            Build.flat(y, 1, 1, 100000, k == 0 ? 99998 : 1, 100000);
        }
        y.hour(35, NEED, 100000);
        y.hour(35, PRICE, 1000);
        CHECKS.is("the most in an hour", y.cost(), 300300000);
    }

    /** "for each machine that runs and did not in the hour before the cents of its START". */
    private static void costOfStarts() {
        HeatMachines x = new HeatMachines();
        Build.flat(x, 1, 1, 1, 5, 0);
        Build.flat(x, 1, 1, 10, 5, 0);
        Build.flat(x, 1, 1, 100, 5, 0);
        x.hour(0, NEED, 5);
        CHECKS.is("the cheapest start", x.cost(), 1);
        x.hour(1, NEED, 15);
        CHECKS.is("all start once", x.cost(), 111);
        x.hour(2, NEED, 15);
        CHECKS.is("none starts again", x.cost(), 111);
        x.run(1);
        CHECKS.is("one has started", x.cost(), 110);
        x.run(1);
        CHECKS.is("all have started", x.cost(), 0);
        x.run(1);
        x.hour(4, NEED, 15);
        CHECKS.is("running on through hour 3 is for nothing", x.cost(), 0);
        x.out(1, 3, true);
        CHECKS.is("but one is out", x.cost(), 10);
    }

    /** "THE BEST PLAN is that which costs least of all that may be". */
    private static void theLeastCost() {
        HeatMachines x = one(1, 1, 20);
        need(x, 0, 2);
        x.hour(1, PRICE, 19);
        plan("running on costs one less than a start", x, 0, "111");
        x.hour(1, PRICE, 21);
        plan("running on costs one more", x, 0, "101");
        HeatMachines y = new HeatMachines();
        Build.flat(y, 1, 1, 0, 100, 11);
        Build.flat(y, 1, 1, 0, 5, 5);
        Build.flat(y, 1, 1, 0, 5, 5);
        y.hour(0, NEED, 10);
        plan("two cost one less than one", y, 0, "60");
        y.hour(0, NEED, 11);
        plan("two are not enough", y, 0, "10");
    }

    /** "A SET of machines is a number, bit k for machine k": set s gives s for s here. */
    private static void everySetCanBeBest() {
        for (int outages = 0; outages < 8; outages++) {
            HeatMachines x = new HeatMachines();
            for (int k = 0; k < 3; k++) {
                Build.flat(x, 1, 1, 0, 1 << k, 1 << k);
                x.out(k, 9, (outages >> k & 1) == 1);
            }
            for (int need = 0; need <= 8; need++) {
                int due = need;
                while ((due & outages) != 0) {
                    due++;
                }
                x.hour(9, NEED, need);
                boolean can = due < 8;
                CHECKS.is("need " + need + ", out " + outages, x.planned(9), can ? due : NONE);
                CHECKS.is("its cost", x.cost(), can ? 10 * due : NONE);
            }
        }
    }

    /** "of several, that with the least set in the first hour in which they are not the same". */
    private static void theLeastSetFirst() {
        HeatMachines x = new HeatMachines();
        Build.flat(x, 1, 1, 0, 5, 2);
        Build.flat(x, 1, 1, 0, 5, 1);
        Build.flat(x, 1, 1, 0, 10, 3);
        x.hour(0, NEED, 10);
        plan("3 and 4 cost the same", x, 0, "30");
        x.out(0, 0, true);
        plan("4 and 6 are left", x, 0, "40");
        HeatMachines y = one(1, 1, 20);
        need(y, 0, 2);
        y.hour(1, PRICE, 20);
        plan("running on costs what a start does", y, 0, "101");
        CHECKS.is("two starts", y.starts(0), 2);
    }

    /** A least set early goes before lesser sets later. */
    private static void theLeastSetInTheFirstHour() {
        HeatMachines x = new HeatMachines();
        Build.flat(x, 2, 1, 0, 5, 1);
        x.hour(5, NEED, 5);
        plan("4 and 5, or 5 and 6: late", x, 3, "00110");
        HeatMachines y = new HeatMachines();
        Build.flat(y, 2, 1, 0, 5, 1);
        Build.flat(y, 1, 1, 0, 5, 2);
        y.hour(0, NEED, 5);
        plan("1 and 1, or 2 and 0", y, 0, "110");
        y.out(0, 0, true);
        plan("2 is left", y, 0, "200");
        HeatMachines z = new HeatMachines();
        Build.flat(z, 3, 4, 0, 5, 1);
        z.hour(34, NEED, 5);
        plan("the end cuts it", z, 31, "00011");
    }

    /** Where all costs nothing, the empty set is the least one. */
    private static void freeHeatIsNotTaken() {
        HeatMachines x = new HeatMachines();
        for (int k = 0; k < 3; k++) {
            Build.flat(x, 2, 2, 0, 5, 0);
        }
        x.hour(1, NEED, 1);
        CHECKS.is("all is for nothing", x.cost(), 0);
        plan("and no more than must", x, 0, "01100");
        x.hour(2, NEED, 6);
        plan("as few as can be, as late as can be", x, 0, "013200");
        CHECKS.is("starts", x.starts(1), 1);
    }

    /** "between two of them as the heat of a map". */
    private static void curveBetweenCorners() {
        HeatMachines x = new HeatMachines();
        x.corner(-5000, 10000);
        x.corner(4999, 0);
        x.corner(5000, 10000);
        CHECKS.is("the first", x.curve(-5000), 10000);
        CHECKS.is("one behind it, down", x.curve(-4999), 9998);
        CHECKS.is("one before the second, down", x.curve(4998), 1);
        CHECKS.is("the second", x.curve(4999), 0);
        CHECKS.is("the third", x.curve(5000), 10000);
        HeatMachines y = new HeatMachines();
        y.corner(0, 0);
        y.corner(3, 1);
        y.corner(6, 0);
        int[] due = {0, 0, 0, 0, 1, 0, 0, 0, 0};
        for (int w = -1; w <= 7; w++) {
            CHECKS.is("at " + w, y.curve(w), due[w + 1]);
        }
    }

    /** "(load of k less that of the hour before, 0 before hour 0) times G(h - k)". */
    private static void fallFromHourToHour() {
        HeatMachines x = new HeatMachines();
        x.ground(1);
        x.ground(10);
        x.ground(100);
        x.load(0, 1);
        x.load(1, 3);
        x.load(2, 7);
        long[] due = {1, 12, 124, 1 * 100 + 2 * 100 + 4 * 10 - 7, 300 + 400 - 70, 0};
        for (int h = 0; h < due.length; h++) {
            CHECKS.is("fall in " + h, x.fall(h), due[h]);
        }
        x.load(0, -1);
        CHECKS.is("below 0", x.fall(0), -1);
        CHECKS.is("a step of 4", x.fall(1), -10 + 4);
    }
}
