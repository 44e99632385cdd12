/** Numbers as if by chance, the same ones in each run. */
final class Chance {
    private long seed;

    Chance(long seed) {
        this.seed = seed;
    }

    int next(int bound) {
        return (int) ((word() >>> 33) % bound);
    }

    boolean in100(int times) {
        return next(100) < times;
    }

    long word() {
        seed = seed * 6364136223846793005L + 1442695040888963407L;
        return seed;
    }

    @SafeVarargs
    final <T> T one(T... of) {
        return of[next(of.length)];
    }
}
