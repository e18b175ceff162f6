/** Numbers that look thrown but are the same in every run of the tests. */
final class Dice {
    private long state;

    Dice(int seed) {
        state = 0x9E3779B97F4A7C15L * (seed + 1);
    }

    /** 0 .. limit - 1. */
    int below(int limit) {
        state = state * 6364136223846793005L + 1442695040888963407L;
        return (int) ((state >>> 33) % limit);
    }

    boolean oneIn(int count) {
        return below(count) == 0;
    }
}
