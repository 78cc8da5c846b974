/** A field one machine of which has something of all that can be asked, so that what a call leaves can be seen. */
final class Rich {
    private static final int[] ALL = {Ask.NUMBER, Ask.PIECES, Ask.RANK, Ask.RUNS, Ask.BEGAN, Ask.TELLS_AT, Ask.HEARD,
        Ask.TELLS, Ask.MIXES, Ask.SPOILT, Ask.LOST, Ask.LIES, Ask.TURN, Ask.TURN_TICK};
    private static final int SEED = findSeed();

    private Rich() {
    }

    /** Machine 1 of five: 7 of three PIECES with RANK 2, runs 3, SPAN above LOW, DATA-AT set; two PIECES are told. */
    static MeshField field() {
        MeshField x = new MeshField();
        tell(x);
        return x;
    }

    static void tell(MeshField x) {
        tell(x, SEED);
    }

    private static void tell(MeshField x, int seed) {
        x.rules(9, 6, 300, 32);
        x.seed(seed);
        for (int i = 0; i < 5; i++) {
            x.machine();
        }
        for (int a = 0; a < 5; a++) {
            for (int b = 0; b < 5; b++) {
                x.hears(a, b, 25);
            }
        }
        x.piece(9);
        x.load(1, 3);
        x.turn(1, 3, 1);
        x.ticks(1);
        Ask.pieces(x, 10, 20, 40);
        x.load(1, 7);
        x.cut(1, true);
        x.lie(1, 1, 99);
        x.lie(1, 4, 40);
        x.lie(1, 3, 30);
        x.turn(1, 6, 900);
        x.ticks(150);
        x.cut(4, true);
        x.ticks(25);
        Ask.pieces(x, 5, 6);
    }

    private static int findSeed() {
        for (int s = 0; s < 20000; s++) {
            MeshField x = new MeshField();
            tell(x, s);
            if (isRich(x)) {
                return s;
            }
        }
        throw new IllegalStateException("no seed makes a rich field");
    }

    private static boolean isRich(MeshField x) {
        for (int what : ALL) {
            if (x.machineOf(1, what) == 0) {
                return false;
            }
        }
        return x.machineOf(1, Ask.NUMBER) == 7 && x.machineOf(1, Ask.RANK) == 2 && x.machineOf(1, Ask.SPAN) > 6
            && x.machineOf(1, Ask.DATA_AT) != -1;
    }
}
