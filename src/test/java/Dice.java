/** The document's DRAWS, told anew over long numbers. */
final class Dice {
    static final int ANY = -1;

    private long state;

    Dice(int seed) {
        state = seed & 0xFFFFFFFFL;
    }

    int below(int m) {
        state = (state * 1103515245L + 12345L) & 0xFFFFFFFFL;
        return (int) ((state >> 16) % m);
    }

    /** A seed after which the draws come out as wanted, told in pairs: below what, and what (or ANY). */
    static int seedOf(int... wanted) {
        for (int s = 0; s < 100000000; s++) {
            if (draws(s, wanted)) {
                return s;
            }
        }
        throw new IllegalStateException("no seed draws so");
    }

    private static boolean draws(int seed, int[] wanted) {
        Dice dice = new Dice(seed);
        for (int i = 0; i + 1 < wanted.length; i += 2) {
            int drawn = dice.below(wanted[i]);
            if (wanted[i + 1] != ANY && wanted[i + 1] != drawn) {
                return false;
            }
        }
        return true;
    }
}
