/** Numbers that look thrown but are the same in every run. */
final class Dice {
    private long seed;

    Dice(long seed) {
        this.seed = seed * 2654435761L + 12345;
    }

    /** A number from least to most. */
    int from(int least, int most) {
        seed = seed * 6364136223846793005L + 1442695040888963407L;
        return least + (int) Math.floorMod(seed >>> 33, (long) most - least + 1);
    }

    boolean oneIn(int n) {
        return from(1, n) == 1;
    }
}
