/** Numbers that look thrown, but are the same in each run. */
final class Dice {
    private long state;

    Dice(long seed) {
        state = seed * 0x9E3779B97F4A7C15L + 1;
    }

    int below(int bound) {
        state = state * 6364136223846793005L + 1442695040888963407L;
        return (int) ((state >>> 33) % bound);
    }

    int from(int least, int most) {
        return least + below(most - least + 1);
    }

    boolean oneIn(int many) {
        return below(many) == 0;
    }

    @SafeVarargs
    final <T> T of(T... all) {
        return all[below(all.length)];
    }
}
