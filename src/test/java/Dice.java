/** The document's DRAWS, told anew over long numbers. */
final class Dice {
    private long state;

    Dice(int seed) {
        state = seed & 0xFFFFFFFFL;
    }

    int below(int m) {
        state = (state * 1103515245L + 12345L) & 0xFFFFFFFFL;
        return (int) ((state >> 16) % m);
    }
}
