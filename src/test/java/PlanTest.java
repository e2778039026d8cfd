/**
 * The best plan of the last four hours against all 4096 plans, one by one: the rules are read off
 * whole rows of hours, nothing is shared with a planner.
 */
public final class PlanTest {
    private static final int CASES = 400;
    private static final int FIRST = 32;
    private static final Checks CHECKS = new Checks();
    private static int withPlan = 0;

    public static void main(String[] args) {
        for (int seed = 1; seed <= CASES; seed++) {
            new PlanTest(seed).play();
        }
        CHECKS.is("cases with a plan are neither few nor all",
                withPlan > CASES / 4 && withPlan < CASES, true);
        CHECKS.end("PlanTest");
    }

    private final int seed;
    private final Dice dice;
    private final HeatMachines x = new HeatMachines();
    private final int[][] traits = new int[3][5];
    private final boolean[][] isOut = new boolean[3][36];
    private final int[] prices = new int[36];
    private final int[] needs = new int[36];
    private final int[] sets = new int[36];

    private PlanTest(int seed) {
        this.seed = seed;
        this.dice = new Dice(seed);
    }

    private void play() {
        for (int k = 0; k < 3; k++) {
            int[] t = {dice.from(1, 4), dice.from(1, 4), dice.from(0, 9), dice.from(1, 6),
                dice.from(0, 4)};
            traits[k] = t;
            x.machine(t[0], t[1], t[2]);
            x.row(k, -1, t[3], t[4]);
            x.row(k, 1, t[3], t[4]);
        }
        for (int h = 0; h < 36; h++) {
            prices[h] = dice.from(0, 3);
            needs[h] = h < FIRST ? dice.from(0, 1) * dice.from(0, 1) : dice.from(0, 9);
            x.hour(h, 1, prices[h]);
            if (h < FIRST) {
                x.hour(h, 2, needs[h]);
            }
        }
        CHECKS.is(seed + ": the hours before pass", x.run(FIRST), FIRST);
        for (int h = FIRST; h < 36; h++) {
            x.hour(h, 2, needs[h]);
            for (int k = 0; k < 3; k++) {
                isOut[k][h] = dice.oneIn(7);
                x.out(k, h, isOut[k][h]);
            }
        }
        compare();
    }

    private void compare() {
        for (int h = 0; h < FIRST; h++) {
            sets[h] = x.ran(h);
        }
        long best = -1;
        int bestPlan = -1;
        // A plan is read with its first hour highest, so the least number is the least plan.
        for (int plan = 0; plan < 4096; plan++) {
            lay(plan);
            if (mayBe()) {
                long cents = costs();
                if (bestPlan < 0 || cents < best) {
                    best = cents;
                    bestPlan = plan;
                }
            }
        }
        withPlan += bestPlan < 0 ? 0 : 1;
        CHECKS.is(seed + ": cost", x.cost(), best);
        lay(Math.max(bestPlan, 0));
        for (int h = FIRST; h < 36; h++) {
            CHECKS.is(seed + ": planned " + h, x.planned(h), bestPlan < 0 ? -1 : sets[h]);
        }
        for (int k = 0; k < 3; k++) {
            CHECKS.is(seed + ": starts " + k, x.starts(k), bestPlan < 0 ? -1 : countStarts(k));
        }
    }

    private void lay(int plan) {
        for (int i = 0; i < 4; i++) {
            sets[FIRST + i] = plan >> (3 * (3 - i)) & 7;
        }
    }

    private boolean runs(int k, int h) {
        return h >= 0 && (sets[h] >> k & 1) == 1;
    }

    private boolean mayBe() {
        for (int h = FIRST; h < 36; h++) {
            int heat = 0;
            for (int k = 0; k < 3; k++) {
                if (!isAsTold(k, h)) {
                    return false;
                }
                heat += runs(k, h) ? traits[k][3] : 0;
            }
            if (heat < needs[h]) {
                return false;
            }
        }
        return true;
    }

    private boolean isAsTold(int k, int h) {
        if (isOut[k][h]) {
            return !runs(k, h);
        }
        int lasted = 0;
        boolean ran = runs(k, h - 1);
        for (int before = h - 1; before >= 0 && runs(k, before) == ran; before--) {
            lasted++;
        }
        boolean longEnough = lasted >= traits[k][ran ? 0 : 1];
        return longEnough || runs(k, h) == ran;
    }

    private long costs() {
        long cents = 0;
        for (int h = FIRST; h < 36; h++) {
            for (int k = 0; k < 3; k++) {
                if (runs(k, h)) {
                    cents += traits[k][4] * prices[h] + (runs(k, h - 1) ? 0 : traits[k][2]);
                }
            }
        }
        return cents;
    }

    private int countStarts(int k) {
        int count = 0;
        for (int h = FIRST; h < 36; h++) {
            count += runs(k, h) && !runs(k, h - 1) ? 1 : 0;
        }
        return count;
    }
}
