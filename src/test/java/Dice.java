/** Numbers that look thrown, but are the same in each run. */
final class Dice {
    private long state;

    Dice(long seed) {
        state = seed;
    }

    /** One of least .. most. */
    int roll(int least, int most) {
        state = state * 6364136223846793005L + 1442695040888963407L;
        return least + (int) Math.floorMod(state >>> 33, (long) (most - least + 1));
    }

    boolean oneIn(int n) {
        return roll(1, n) == 1;
    }
}
