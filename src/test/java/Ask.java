/** Names for the numbers that machineOf() and about() are asked by. */
final class Ask {
    static final int NUMBER = 0;
    static final int PIECES = 1;
    static final int RANK = 2;
    static final int WHOLE = 3;
    static final int RUNS = 4;
    static final int SPAN = 5;
    static final int BEGAN = 6;
    static final int TELLS_AT = 7;
    static final int HEARD = 8;
    static final int DATA_AT = 9;
    static final int TELLS = 10;
    static final int MIXES = 11;
    static final int SPOILT = 12;
    static final int LOST = 13;
    static final int LIES = 14;
    static final int TURN = 15;
    static final int TURN_TICK = 16;
    static final int MASK = 100;

    static final int MACHINES = 0;
    static final int TICK = 1;
    static final int LETTERS = 2;
    static final int RUNNERS = 3;
    static final int TOLD = 4;
    static final int ALL_WHOLE = 5;

    private Ask() {
    }

    static void pieces(MeshField x, int... data) {
        for (int d : data) {
            x.piece(d);
        }
    }

    static int sumOf(int... data) {
        int sum = 0;
        for (int i = 0; i < data.length; i++) {
            sum += data[i] * (i + 1);
        }
        return sum;
    }
}
