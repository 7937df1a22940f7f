/** Numbers that look random but are the same in every run of the tests. */
final class Dice {
    private long state;

    Dice(long seed) {
        state = seed * 0x9E3779B97F4A7C15L + 1;
    }

    int below(int bound) {
        state = state * 6364136223846793005L + 1442695040888963407L;
        return (int) ((state >>> 33) % bound);
    }

    boolean oneIn(int times) {
        return below(times) == 0;
    }

    /** Mostly a number from 0 to bound - 1, at times one beside that or far off. */
    int about(int bound) {
        if (!oneIn(24)) {
            return below(bound);
        }
        int[] off = {-1, bound, bound + 1, Integer.MIN_VALUE, Integer.MAX_VALUE};
        return off[below(off.length)];
    }
}
