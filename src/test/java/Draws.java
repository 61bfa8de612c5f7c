/** Draws that are the same each time, so that a test that fails once fails always. */
final class Draws {
    private long state;

    Draws(long seed) {
        state = seed * 6364136223846793005L + 1442695040888963407L;
        below(2);
        below(2);
    }

    /** 0 .. n - 1. */
    int below(int n) {
        state = state * 6364136223846793005L + 1442695040888963407L;
        return (int) Math.floorMod(state >>> 33, (long) n);
    }

    boolean oneIn(int n) {
        return below(n) == 0;
    }

    int from(int low, int high) {
        return low + below(high - low + 1);
    }

    <T> T pick(T[] some) {
        return some[below(some.length)];
    }
}
