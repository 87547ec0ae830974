/** Numbers that look like chance, the same ones in every run. */
final class Chance {
    private long state;

    Chance(long seed) {
        state = seed;
    }

    int below(int bound) {
        state = state * 6364136223846793005L + 1442695040888963407L;
        return (int) ((state >>> 33) % bound);
    }

    boolean oneIn(int n) {
        return below(n) == 0;
    }
}
