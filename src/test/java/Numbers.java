/** Numbers that look drawn by chance, the same ones in every run. */
final class Numbers {
    private long state;

    Numbers(long seed) {
        state = seed * 0x9E3779B97F4A7C15L + 1;
    }

    /** A number from 0 to one less than the bound. */
    int below(int bound) {
        state = state * 6364136223846793005L + 1442695040888963407L;
        return (int) ((state >>> 33) % bound);
    }

    int from(int... choices) {
        return choices[below(choices.length)];
    }

    boolean oneIn(int count) {
        return below(count) == 0;
    }
}
