/** Numbers that look thrown, the same ones for the same seed. */
final class Dice {
    private long state;

    Dice(long seed) {
        state = seed * 0x9E3779B97F4A7C15L + 0x1234567L;
        next(2);
    }

    int next(int below) {
        state = state * 6364136223846793005L + 1442695040888963407L;
        long x = state ^ state >>> 29;
        x *= 0xBF58476D1CE4E5B9L;
        return (int) ((x >>> 33) % below);
    }

    int from(int least, int most) {
        return least + next(most - least + 1);
    }

    boolean chance(int of100) {
        return next(100) < of100;
    }

    int any(int... choices) {
        return choices[next(choices.length)];
    }
}
