/** Numbers for tests that look random and are the same in each run. */
final class Dice {
    private long x;

    Dice(long seed) {
        x = seed * 0x9E3779B97F4A7C15L + 1;
    }

    long bits() {
        x ^= x << 13;
        x ^= x >>> 7;
        x ^= x << 17;
        return x * 0x2545F4914F6CDD1DL;
    }

    int below(int n) {
        return (int) ((bits() >>> 33) % n);
    }

    boolean odds(int one, int of) {
        return below(of) < one;
    }

    int of(int... some) {
        return some[below(some.length)];
    }

    /** Numbers near the edges of what 64 bits hold. */
    long number() {
        switch (below(6)) {
            case 0:
                return below(20) - 10;
            case 1:
                return 1L << below(64);
            case 2:
                return (1L << below(64)) - 1;
            case 3:
                return -(1L << below(64));
            case 4:
                return bits() >> below(64);
            default:
                return bits() >>> below(64);
        }
    }
}
