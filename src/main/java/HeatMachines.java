/**
 * Machines that heat a house, by their maps: which of them run in which hour so that there is
 * heat enough and all costs least; beside them a curve by the outside's warmth, and a hole in the
 * ground by loads laid over one another.
 */
public final class HeatMachines {
    /** There is none. */
    public static final int NONE = -1;

    private static final int HOURS = 36;
    private static final int MACHINES = 3;
    private static final int ROWS = 8;
    private static final int CORNERS = 6;
    private static final int COLDEST = -5000;
    private static final int WARMEST = 5000;
    private static final int MOST = 100000;
    private static final int MOST_WATER = 10000;
    private static final int MOST_GROUND = 1000;
    private static final int MOST_LOAD = 1000;
    private static final int LONGEST = 4;
    private static final int FIRST_PRICE = 10;

    private static final int OUTSIDE = 0;
    private static final int PRICE = 1;
    private static final int NEED = 2;
    private static final int FACTS = 3;
    private static final int[] LEAST_FACT = {COLDEST, 0, 0};
    private static final int[] MOST_FACT = {WARMEST, 1000, MOST};

    private static final int TOLD_CENTS = 0;
    private static final int TOLD_HEAT = 1;
    private static final int TOLD_NEED = 2;
    private static final int TOLD_POWER = 3;
    private static final int TOLDS = 4;

    /** How many sets of machines there are. */
    private static final int SETS = 1 << MACHINES;
    /** A machine's part of a state has this many bits. */
    private static final int DIGIT_BITS = 3;
    private static final int DIGITS = 1 << DIGIT_BITS;
    /** In a machine's part of a state: it ran in the hour before. */
    private static final int RAN = LONGEST;
    /** How many states all machines together may be in. */
    private static final int STATES = 1 << (DIGIT_BITS * MACHINES);

    private final Planner planner = new Planner();
    private final House house = planner.house;
    private final int[] ranSets = new int[HOURS];
    private final long[] totals = new long[TOLDS];
    private final Line waters = new Line(CORNERS);
    private final Borehole borehole = new Borehole();

    /** No machines. */
    public HeatMachines() {
    }

    /** A machine: its number. */
    public int machine(int run, int pause, int cents)
            throws IllegalArgumentException, IllegalStateException {
        requireArgument(isWithin(run, 1, LONGEST) && isWithin(pause, 1, LONGEST)
                && isWithin(cents, 0, MOST));
        requireState(house.count < MACHINES && planner.over == 0);
        int number = house.take(run, pause, cents);
        planner.join(number);
        return number;
    }

    /** A row of a machine's map: how many it has. */
    public int row(int machine, int outside, int heat, int power)
            throws IllegalArgumentException, IllegalStateException {
        requireArgument(isMachine(machine) && isWarmth(outside)
                && isWithin(heat, 0, MOST) && isWithin(power, 0, MOST));
        Machine which = house.machines[machine];
        requireState(which.heats.hasRoomAt(outside));
        which.heats.add(outside, heat);
        which.powers.add(outside, power);
        planner.forgetUpTo(HOURS - 1);
        return which.heats.size;
    }

    /** An hour's outside warmth (what = 0), price (1) or need (2): what it was. */
    public int hour(int hour, int what, int v)
            throws IllegalArgumentException, IllegalStateException {
        requireArgument(isHour(hour) && isWithin(what, 0, FACTS - 1)
                && isWithin(v, LEAST_FACT[what], MOST_FACT[what]));
        requireState(hour >= planner.over);
        int was = house.facts[what][hour];
        house.facts[what][hour] = v;
        planner.forgetUpTo(hour);
        return was;
    }

    /** Whether a machine is out in an hour: whether it was. */
    public boolean out(int machine, int hour, boolean is)
            throws IllegalArgumentException, IllegalStateException {
        requireArgument(isMachine(machine) && isHour(hour));
        requireState(hour >= planner.over);
        Machine which = house.machines[machine];
        boolean was = which.outages[hour];
        which.outages[hour] = is;
        planner.forgetUpTo(hour);
        return was;
    }

    /** What a machine gives (what = 0), and for what power (1), at an outside warmth. */
    public int gives(int machine, int outside, int what) throws IllegalArgumentException {
        requireArgument(isMachine(machine) && isWarmth(outside) && isWithin(what, 0, 1));
        Machine which = house.machines[machine];
        return what == 0 ? which.heats.valueAt(outside, false) : which.powers.valueAt(outside, true);
    }

    /** What the best plan costs; NONE if none may be. */
    public long cost() {
        planner.refresh();
        return planner.leastCents();
    }

    /** The set of an hour in the best plan; NONE if the hour is over, or there is no plan. */
    public int planned(int hour) throws IllegalArgumentException {
        requireArgument(isHour(hour));
        planner.refresh();
        return hour < planner.over ? NONE : planner.sets[hour];
    }

    /** How many starts of a machine there are in the best plan; NONE if there is no plan. */
    public int starts(int machine) throws IllegalArgumentException {
        requireArgument(isMachine(machine));
        planner.refresh();
        return planner.hasPlan() ? planner.countStarts(machine) : NONE;
    }

    /** Hours, one after the other, each as in the best plan: how many are over. */
    public int run(int n) throws IllegalArgumentException {
        requireArgument(isWithin(n, 1, HOURS));
        // What is left of a best plan is the best plan of the hours left: one look serves them all.
        planner.refresh();
        for (int i = 0; i < n && planner.over < HOURS && planner.hasPlan(); i++) {
            passHour(planner.over);
        }
        return planner.over;
    }

    /** The set that ran in an hour that is over; NONE if it is not. */
    public int ran(int hour) throws IllegalArgumentException {
        requireArgument(isHour(hour));
        return hour < planner.over ? ranSets[hour] : NONE;
    }

    /** Of all hours over: cost (what = 0), heat given (1), heat needed (2), power (3). */
    public long told(int what) throws IllegalArgumentException {
        requireArgument(isWithin(what, 0, TOLDS - 1));
        return totals[what];
    }

    /** A corner of the curve: how many it has. */
    public int corner(int outside, int water)
            throws IllegalArgumentException, IllegalStateException {
        requireArgument(isWarmth(outside) && isWithin(water, 0, MOST_WATER));
        requireState(waters.hasRoomAt(outside));
        waters.add(outside, water);
        return waters.size;
    }

    /** The curve at an outside warmth; NONE without corners. */
    public int curve(int outside) throws IllegalArgumentException {
        requireArgument(isWarmth(outside));
        return waters.heldValueAt(outside);
    }

    /** The next number of the ground's table: how many it has. */
    public int ground(int g) throws IllegalArgumentException, IllegalStateException {
        requireArgument(isWithin(g, borehole.lastNumber(), MOST_GROUND));
        requireState(borehole.size < HOURS);
        borehole.add(g);
        return borehole.size;
    }

    /** An hour's load: what it was. */
    public int load(int hour, int q) throws IllegalArgumentException {
        requireArgument(isHour(hour) && isWithin(q, -MOST_LOAD, MOST_LOAD));
        int was = borehole.loads[hour];
        borehole.loads[hour] = q;
        return was;
    }

    /** The ground's fall in an hour. */
    public long fall(int hour) throws IllegalArgumentException {
        requireArgument(isHour(hour));
        return borehole.fallIn(hour);
    }

    private void passHour(int hour) {
        int set = planner.sets[hour];
        totals[TOLD_CENTS] += planner.centsOf(hour, planner.state, set);
        totals[TOLD_HEAT] += planner.heatOf(hour, set);
        totals[TOLD_NEED] += house.facts[NEED][hour];
        totals[TOLD_POWER] += planner.powerOf(hour, set);
        ranSets[hour] = set;
        planner.advance();
    }

    private boolean isMachine(int machine) {
        return isWithin(machine, 0, house.count - 1);
    }

    private static boolean isHour(int hour) {
        return isWithin(hour, 0, HOURS - 1);
    }

    private static boolean isWarmth(int outside) {
        return isWithin(outside, COLDEST, WARMEST);
    }

    private static boolean isWithin(int v, int least, int most) {
        return v >= least && v <= most;
    }

    private static void requireArgument(boolean holds) {
        if (!holds) {
            throw new IllegalArgumentException("a number is out of its bounds");
        }
    }

    private static void requireState(boolean holds) {
        if (!holds) {
            throw new IllegalStateException("not in this state");
        }
    }

    /** Values at rising warmths, joined by straight lines. */
    private static final class Line {
        private final int[] warmths;
        private final int[] values;
        private int size = 0;

        Line(int most) {
            int room = Math.max(most, 0);
            warmths = new int[room];
            values = new int[room];
        }

        boolean hasRoomAt(int warmth) {
            return size < values.length && (size == 0 || warmth > warmths[size - 1]);
        }

        void add(int warmth, int value) {
            if (hasRoomAt(warmth)) {
                warmths[size] = warmth;
                values[size] = value;
                size++;
            }
        }

        /** The value at a warmth, rounded up or down; NONE before the first and behind the last. */
        int valueAt(int warmth, boolean up) {
            int right = 0;
            while (right < size && warmths[right] < warmth) {
                right++;
            }
            if (right == size || (right == 0 && warmths[0] != warmth)) {
                return NONE;
            }
            return warmths[right] == warmth ? values[right] : between(right - 1, warmth, up);
        }

        /** The value at a warmth, the outermost ones holding on beyond; NONE without any. */
        int heldValueAt(int warmth) {
            if (size == 0) {
                return NONE;
            }
            return valueAt(Math.min(Math.max(warmth, warmths[0]), warmths[size - 1]), false);
        }

        private int between(int left, int warmth, boolean up) {
            int span = warmths[left + 1] - warmths[left];
            if (span <= 0) {
                return values[left];
            }
            long rise = (long) (values[left + 1] - values[left]) * (warmth - warmths[left]);
            long step = up ? -Math.floorDiv(-rise, (long) span) : Math.floorDiv(rise, (long) span);
            return values[left] + (int) step;
        }
    }

    /**
     * A machine. Its part of a state, a digit, is RAN if it ran in the hour before, and 0 if not,
     * with the number of hours (0 .. 3) added for which it is still bound to go on so.
     */
    private static final class Machine {
        private int leastRun = 1;
        private int leastPause = 1;
        private int startCents = 0;
        private final Line heats = new Line(ROWS);
        private final Line powers = new Line(ROWS);
        private final boolean[] outages = new boolean[HOURS];

        static boolean hasRun(int digit) {
            return digit >= RAN;
        }

        static boolean isBound(int digit) {
            return digit != 0 && digit != RAN;
        }

        boolean canReach(int digit) {
            return hasRun(digit) ? digit < RAN + leastRun : digit < leastPause;
        }

        /** The digit after one more hour; a run may also be broken off while it is bound. */
        int digitAfter(int digit, boolean runs) {
            if (runs != hasRun(digit)) {
                return runs ? RAN + leastRun - 1 : leastPause - 1;
            }
            return isBound(digit) ? digit - 1 : digit;
        }
    }

    /** The machines, as they came, and what is known of the hours. */
    private static final class House {
        private final Machine[] machines = new Machine[MACHINES];
        private int count = 0;
        private final int[][] facts = new int[FACTS][HOURS];

        House() {
            for (int k = 0; k < MACHINES; k++) {
                machines[k] = new Machine();
            }
            for (int hour = 0; hour < HOURS; hour++) {
                facts[PRICE][hour] = FIRST_PRICE;
            }
        }

        int take(int run, int pause, int cents) {
            if (count >= MACHINES) {
                return NONE;
            }
            Machine next = machines[count];
            next.leastRun = run;
            next.leastPause = pause;
            next.startCents = cents;
            count++;
            return count - 1;
        }
    }

    /**
     * All that the hours before may have bound the machines to: a state is the machines' digits,
     * machine 0 lowest. State 0: none ran, and all have paused long enough.
     */
    private static final class States {
        private final int[] reachable = new int[STATES];
        private int count = 1;
        private final int[] ranBefore = new int[STATES];
        private final int[] mustRun = new int[STATES];
        private final int[] mustPause = new int[STATES];
        private final int[] after = new int[STATES * SETS];

        /** Makes room for machine k, the last one of the house. */
        void extend(House house, int k) {
            int known = count;
            for (int digit = 1; digit < DIGITS; digit++) {
                for (int i = 0; i < known && count < STATES; i++) {
                    if (house.machines[k].canReach(digit)) {
                        reachable[count] = reachable[i] | digit << (DIGIT_BITS * k);
                        count++;
                    }
                }
            }
            for (int i = 0; i < count; i++) {
                bindAll(house, reachable[i]);
                followAll(house, reachable[i]);
            }
        }

        private void bindAll(House house, int state) {
            ranBefore[state] = 0;
            mustRun[state] = 0;
            mustPause[state] = 0;
            for (int k = 0; k < house.count; k++) {
                int digit = digitOf(state, k);
                if (Machine.hasRun(digit)) {
                    ranBefore[state] |= 1 << k;
                    mustRun[state] |= Machine.isBound(digit) ? 1 << k : 0;
                } else {
                    mustPause[state] |= Machine.isBound(digit) ? 1 << k : 0;
                }
            }
        }

        private void followAll(House house, int state) {
            for (int set = 0; set < 1 << house.count; set++) {
                int next = 0;
                for (int k = 0; k < house.count; k++) {
                    boolean runs = (set >> k & 1) != 0;
                    int digit = house.machines[k].digitAfter(digitOf(state, k), runs);
                    next |= digit << (DIGIT_BITS * k);
                }
                after[state * SETS + set] = next;
            }
        }

        private static int digitOf(int state, int k) {
            return state >> (DIGIT_BITS * k) & (DIGITS - 1);
        }
    }

    /**
     * Finds the best plan from the last hour back to the first one that is not over: for each hour
     * and state, what the hours from there on cost at least.
     */
    private static final class Planner {
        private final House house = new House();
        private final States states = new States();
        private int over = 0;
        private int state = 0;
        /** The hours before this one have changed since they were last looked at. */
        private int stale = HOURS;
        private final int[] sets = new int[HOURS];
        private final int[] able = new int[HOURS];
        private final int[] heats = new int[HOURS * SETS];
        private final int[] powers = new int[HOURS * SETS];
        private final int[] startCents = new int[SETS];
        /**
         * For each hour and state the best choice: the cents from there on times SETS, and the set;
         * the least such number costs least, and of several has the least set. Behind the last hour
         * nothing costs any more, so there is one hour more of zeros.
         */
        private final long[] best = new long[(HOURS + 1) * STATES];

        /** Takes in machine k, the last one of the house. */
        void join(int k) {
            states.extend(house, k);
            int bit = 1 << k;
            for (int set = 0; set < bit; set++) {
                startCents[bit + set] = startCents[set] + house.machines[k].startCents;
            }
            forgetUpTo(HOURS - 1);
        }

        /** What hour h holds tells on the plans from it and from hours before it, on no later ones. */
        void forgetUpTo(int hour) {
            stale = Math.max(stale, hour + 1);
        }

        void refresh() {
            if (stale == 0) {
                return;
            }
            for (int hour = stale - 1; hour >= over; hour--) {
                weigh(hour);
                fill(hour);
            }
            stale = 0;
            layPlan();
        }

        boolean hasPlan() {
            return best[over * STATES + state] != NONE;
        }

        long leastCents() {
            return hasPlan() ? best[over * STATES + state] / SETS : NONE;
        }

        int countStarts(int k) {
            int count = 0;
            int before = states.ranBefore[state];
            for (int hour = over; hour < HOURS; hour++) {
                count += (sets[hour] & ~before) >> k & 1;
                before = sets[hour];
            }
            return count;
        }

        /** The first hour that is not over passes as planned. */
        void advance() {
            if (over < HOURS && hasPlan()) {
                state = states.after[state * SETS + sets[over]];
                over++;
            }
        }

        int heatOf(int hour, int set) {
            return heats[hour * SETS + set];
        }

        int powerOf(int hour, int set) {
            return powers[hour * SETS + set];
        }

        /** What an hour alone costs in which a set runs. */
        long centsOf(int hour, int from, int set) {
            return (long) powers[hour * SETS + set] * house.facts[PRICE][hour]
                    + startCents[set & ~states.ranBefore[from]];
        }

        /** The empty set needs no look: its heat and power stay 0. */
        private void weigh(int hour) {
            able[hour] = 0;
            for (int k = 0; k < house.count; k++) {
                weighMachine(hour, k);
            }
        }

        private void weighMachine(int hour, int k) {
            Machine which = house.machines[k];
            int outside = house.facts[OUTSIDE][hour];
            int given = which.outages[hour] ? NONE : which.heats.valueAt(outside, false);
            boolean can = given != NONE;
            int heat = can ? given : 0;
            int power = can ? which.powers.valueAt(outside, true) : 0;
            int bit = 1 << k;
            able[hour] |= can ? bit : 0;
            for (int set = hour * SETS; set < hour * SETS + bit; set++) {
                heats[bit + set] = heats[set] + heat;
                powers[bit + set] = powers[set] + power;
            }
        }

        private void fill(int hour) {
            for (int i = 0; i < states.count; i++) {
                int from = states.reachable[i];
                best[hour * STATES + from] = bestChoice(hour, from);
            }
        }

        private void layPlan() {
            int from = state;
            boolean is = hasPlan();
            for (int hour = over; hour < HOURS; hour++) {
                int set = is ? (int) (best[hour * STATES + from] % SETS) : NONE;
                sets[hour] = set;
                from = is ? states.after[from * SETS + set] : from;
            }
        }

        private long bestChoice(int hour, int from) {
            int must = states.mustRun[from] & able[hour];
            int free = able[hour] & ~must & ~states.mustPause[from];
            int parts = 1 << Integer.bitCount(free);
            int part = 0;
            long least = NONE;
            for (int i = 0; i < parts; i++) {
                long choice = choiceOf(hour, from, must | part);
                if (choice != NONE && (least == NONE || choice < least)) {
                    least = choice;
                }
                // Borrowing runs through the bits that are not free: the next part of the free ones.
                part = (part - free) & free;
            }
            return least;
        }

        /** A set in an hour as a choice; NONE if it is not heat enough, or no plan goes on from it. */
        private long choiceOf(int hour, int from, int set) {
            if (heats[hour * SETS + set] < house.facts[NEED][hour]) {
                return NONE;
            }
            long rest = best[(hour + 1) * STATES + states.after[from * SETS + set]];
            return rest == NONE ? NONE : (rest / SETS + centsOf(hour, from, set)) * SETS + set;
        }
    }

    /** The hole in the ground: how it answers a load, and its loads. */
    private static final class Borehole {
        private final int[] table = new int[HOURS];
        private int size = 0;
        private final int[] loads = new int[HOURS];

        int lastNumber() {
            return size == 0 ? 0 : table[size - 1];
        }

        void add(int g) {
            if (size < HOURS) {
                table[size] = g;
                size++;
            }
        }

        long fallIn(int hour) {
            long sum = 0;
            int before = 0;
            for (int k = 0; k <= hour && k < HOURS; k++) {
                sum += (long) (loads[k] - before) * numberAfter(hour - k);
                before = loads[k];
            }
            return sum;
        }

        private int numberAfter(int hours) {
            return hours < size ? table[hours] : lastNumber();
        }
    }
}
