/** Numbers that look drawn, and are the same in every run. */
final class Draws {
    private static final int[] FAR = {-1, -2, -3, -10, 1000, Integer.MIN_VALUE, Integer.MAX_VALUE};

    private long state;

    Draws(long seed) {
        state = seed * 0x9E3779B97F4A7C15L + 12345;
        below(2);
    }

    int below(int bound) {
        state = state * 6364136223846793005L + 1442695040888963407L;
        return (int) ((state >>> 33) % bound);
    }

    boolean rarely(int times) {
        return below(times) == 0;
    }

    /** A number beyond 0 .. bound - 1, often just beyond. */
    int wild(int bound) {
        int n = below(FAR.length + 3);
        return n < FAR.length ? FAR[n] : bound + below(2);
    }
}
