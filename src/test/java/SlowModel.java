import java.util.Arrays;

/**
 * The document word by word, slow and plain: a machine's past is read from the sets that ran, not
 * from a state. A call that is due to throw answers ARGUMENT or STATE, which no other call does.
 */
final class SlowModel {
    static final long ARGUMENT = Long.MIN_VALUE;
    static final long STATE = Long.MIN_VALUE + 1;
    private static final long NONE = -1;
    private static final int UNKNOWN = -2;

    private int machines = 0;
    private final int[][] traits = new int[3][3];
    private final int[] rows = new int[3];
    private final int[][][] map = new int[3][8][3];
    private final boolean[][] isOut = new boolean[3][36];
    private final int[][] facts = new int[3][36];
    private int over = 0;
    private final int[] sets = new int[36];
    private int corners = 0;
    private final int[][] corner = new int[6][2];
    private int numbers = 0;
    private final int[] table = new int[36];
    private final int[] loads = new int[36];
    private final long[][] known = new long[36][4096];
    private final int[] plan = new int[36];
    private long planCost = UNKNOWN;

    SlowModel() {
        Arrays.fill(facts[1], 10);
    }

    /** One that is as this one, and goes its own way. */
    SlowModel copy() {
        SlowModel copy = new SlowModel();
        copy.machines = machines;
        copy.over = over;
        copy.corners = corners;
        copy.numbers = numbers;
        for (int i = 0; i < 3; i++) {
            copy.traits[i] = traits[i].clone();
            copy.map[i] = map[i].clone();
            copy.isOut[i] = isOut[i].clone();
            copy.facts[i] = facts[i].clone();
        }
        System.arraycopy(rows, 0, copy.rows, 0, rows.length);
        System.arraycopy(sets, 0, copy.sets, 0, sets.length);
        System.arraycopy(corner, 0, copy.corner, 0, corner.length);
        System.arraycopy(table, 0, copy.table, 0, table.length);
        System.arraycopy(loads, 0, copy.loads, 0, loads.length);
        return copy;
    }

    private static boolean in(int v, int least, int most) {
        return least <= v && v <= most;
    }

    long machine(int run, int pause, int cents) {
        if (!in(run, 1, 4) || !in(pause, 1, 4) || !in(cents, 0, 100000)) {
            return ARGUMENT;
        }
        if (machines == 3 || over > 0) {
            return STATE;
        }
        traits[machines] = new int[] {run, pause, cents};
        planCost = UNKNOWN;
        return machines++;
    }

    long row(int k, int outside, int heat, int power) {
        if (!in(k, 0, machines - 1) || !in(outside, -5000, 5000) || !in(heat, 0, 100000)
                || !in(power, 0, 100000)) {
            return ARGUMENT;
        }
        if (rows[k] == 8 || (rows[k] > 0 && outside <= map[k][rows[k] - 1][0])) {
            return STATE;
        }
        map[k][rows[k]] = new int[] {outside, heat, power};
        planCost = UNKNOWN;
        return ++rows[k];
    }

    long hour(int h, int what, int v) {
        if (!in(h, 0, 35) || !in(what, 0, 2)) {
            return ARGUMENT;
        }
        if (what == 0 ? !in(v, -5000, 5000) : !in(v, 0, what == 1 ? 1000 : 100000)) {
            return ARGUMENT;
        }
        if (h < over) {
            return STATE;
        }
        long was = facts[what][h];
        facts[what][h] = v;
        planCost = UNKNOWN;
        return was;
    }

    long out(int k, int h, boolean is) {
        if (!in(k, 0, machines - 1) || !in(h, 0, 35)) {
            return ARGUMENT;
        }
        if (h < over) {
            return STATE;
        }
        boolean was = isOut[k][h];
        isOut[k][h] = is;
        planCost = UNKNOWN;
        return was ? 1 : 0;
    }

    long gives(int k, int outside, int what) {
        if (!in(k, 0, machines - 1) || !in(outside, -5000, 5000) || !in(what, 0, 1)) {
            return ARGUMENT;
        }
        return given(k, outside, what);
    }

    private long given(int k, int w, int what) {
        for (int i = 0; i < rows[k]; i++) {
            if (map[k][i][0] == w) {
                return map[k][i][1 + what];
            }
            if (i > 0 && map[k][i - 1][0] < w && w < map[k][i][0]) {
                return straight(map[k][i - 1][0], map[k][i - 1][1 + what], map[k][i][0],
                        map[k][i][1 + what], w, what == 1);
            }
        }
        return NONE;
    }

    /** Searches the whole number beside the line, so that no rounding of a division is trusted. */
    private static long straight(int s, int a, int t, int b, int w, boolean up) {
        long exact = (long) a * (t - s) + (long) (b - a) * (w - s);
        long low = Math.min(a, b);
        long high = Math.max(a, b);
        while (low < high) {
            long middle = up ? (low + high) / 2 : (low + high + 1) / 2;
            if (up) {
                if (middle * (t - s) >= exact) {
                    high = middle;
                } else {
                    low = middle + 1;
                }
            } else if (middle * (t - s) <= exact) {
                low = middle;
            } else {
                high = middle - 1;
            }
        }
        return low;
    }

    private boolean can(int k, int h) {
        return !isOut[k][h] && given(k, facts[0][h], 0) != NONE;
    }

    /** The sets of four hours, the newest lowest: hours before the first one are pauses. */
    private static boolean ranAgo(int past, int ago, int k) {
        return (past >> (3 * (ago - 1)) >> k & 1) == 1;
    }

    private static int lasts(int past, int k) {
        int hours = 1;
        while (hours < 4 && ranAgo(past, hours + 1, k) == ranAgo(past, 1, k)) {
            hours++;
        }
        return hours;
    }

    private boolean mayBe(int h, int past, int set) {
        long heat = 0;
        for (int k = 0; k < machines; k++) {
            boolean runs = (set >> k & 1) == 1;
            if (!can(k, h)) {
                if (runs) {
                    return false;
                }
                continue;
            }
            boolean ran = ranAgo(past, 1, k);
            if (ran && lasts(past, k) < traits[k][0] && !runs) {
                return false;
            }
            if (!ran && lasts(past, k) < traits[k][1] && runs) {
                return false;
            }
            heat += runs ? given(k, facts[0][h], 0) : 0;
        }
        return set < 1 << machines && heat >= facts[2][h];
    }

    private long costs(int h, int before, int set) {
        long cents = 0;
        for (int k = 0; k < machines; k++) {
            if ((set >> k & 1) == 1) {
                cents += given(k, facts[0][h], 1) * facts[1][h];
                cents += (before >> k & 1) == 1 ? 0 : traits[k][2];
            }
        }
        return cents;
    }

    private static int push(int past, int set) {
        return (past << 3 | set) & 4095;
    }

    private long least(int h, int past) {
        if (h == 36) {
            return 0;
        }
        if (known[h][past] != UNKNOWN) {
            return known[h][past];
        }
        long best = NONE;
        for (int set = 0; set < 1 << machines; set++) {
            long cents = through(h, past, set);
            if (cents != NONE && (best == NONE || cents < best)) {
                best = cents;
            }
        }
        known[h][past] = best;
        return best;
    }

    private long through(int h, int past, int set) {
        if (!mayBe(h, past, set)) {
            return NONE;
        }
        long rest = least(h + 1, push(past, set));
        return rest == NONE ? NONE : rest + costs(h, past & 7, set);
    }

    private int past() {
        int past = 0;
        for (int h = 0; h < over; h++) {
            past = push(past, sets[h]);
        }
        return past;
    }

    private void look() {
        if (planCost != UNKNOWN) {
            return;
        }
        for (long[] each : known) {
            Arrays.fill(each, UNKNOWN);
        }
        planCost = least(over, past());
        Arrays.fill(plan, -1);
        int past = past();
        for (int h = over; h < 36 && planCost != NONE; h++) {
            int set = 0;
            while (through(h, past, set) != least(h, past)) {
                set++;
            }
            plan[h] = set;
            past = push(past, set);
        }
    }

    long cost() {
        look();
        return planCost;
    }

    long planned(int h) {
        if (!in(h, 0, 35)) {
            return ARGUMENT;
        }
        look();
        return h < over ? NONE : plan[h];
    }

    long starts(int k) {
        if (!in(k, 0, machines - 1)) {
            return ARGUMENT;
        }
        look();
        if (planCost == NONE) {
            return NONE;
        }
        long count = 0;
        for (int h = over; h < 36; h++) {
            int before = h == 0 ? 0 : h == over ? sets[h - 1] : plan[h - 1];
            count += (plan[h] >> k & 1) == 1 && (before >> k & 1) == 0 ? 1 : 0;
        }
        return count;
    }

    long run(int n) {
        if (!in(n, 1, 36)) {
            return ARGUMENT;
        }
        for (int i = 0; i < n && over < 36; i++) {
            look();
            if (planCost == NONE) {
                break;
            }
            sets[over] = plan[over];
            over++;
            planCost = UNKNOWN;
        }
        return over;
    }

    long ran(int h) {
        if (!in(h, 0, 35)) {
            return ARGUMENT;
        }
        return h < over ? sets[h] : NONE;
    }

    long told(int what) {
        if (!in(what, 0, 3)) {
            return ARGUMENT;
        }
        long sum = 0;
        for (int h = 0; h < over; h++) {
            if (what == 0) {
                sum += costs(h, h == 0 ? 0 : sets[h - 1], sets[h]);
            } else if (what == 2) {
                sum += facts[2][h];
            } else {
                for (int k = 0; k < machines; k++) {
                    sum += (sets[h] >> k & 1) == 1 ? given(k, facts[0][h], what == 1 ? 0 : 1) : 0;
                }
            }
        }
        return sum;
    }

    long corner(int outside, int water) {
        if (!in(outside, -5000, 5000) || !in(water, 0, 10000)) {
            return ARGUMENT;
        }
        if (corners == 6 || (corners > 0 && outside <= corner[corners - 1][0])) {
            return STATE;
        }
        corner[corners] = new int[] {outside, water};
        return ++corners;
    }

    long curve(int w) {
        if (!in(w, -5000, 5000)) {
            return ARGUMENT;
        }
        if (corners == 0) {
            return NONE;
        }
        for (int i = 0; i < corners; i++) {
            if (w <= corner[i][0]) {
                return i == 0 || w == corner[i][0] ? corner[i][1]
                        : straight(corner[i - 1][0], corner[i - 1][1], corner[i][0], corner[i][1],
                                w, false);
            }
        }
        return corner[corners - 1][1];
    }

    long ground(int g) {
        if (!in(g, 0, 1000) || (numbers > 0 && g < table[numbers - 1])) {
            return ARGUMENT;
        }
        if (numbers == 36) {
            return STATE;
        }
        table[numbers] = g;
        return ++numbers;
    }

    long load(int h, int q) {
        if (!in(h, 0, 35) || !in(q, -1000, 1000)) {
            return ARGUMENT;
        }
        long was = loads[h];
        loads[h] = q;
        return was;
    }

    long fall(int h) {
        if (!in(h, 0, 35)) {
            return ARGUMENT;
        }
        long sum = 0;
        for (int k = 0; k <= h; k++) {
            long g = numbers == 0 ? 0 : table[Math.min(h - k, numbers - 1)];
            sum += (loads[k] - (k == 0 ? 0 : loads[k - 1])) * g;
        }
        return sum;
    }
}
