/** Fields in states that several tests begin with. */
final class Fields {
    /** No such machine where there are four: ahead of the first, behind the last, and far away. */
    static final int[] NO_MACHINES = {-1, 4, 11, 12, Integer.MIN_VALUE, Integer.MAX_VALUE};

    private Fields() {
    }

    static MeshField withMachines(int count) {
        MeshField x = new MeshField();
        for (int i = 0; i < count; i++) {
            x.machine();
        }
        return x;
    }

    /** One machine that keeps these PIECES as NUMBER 5. */
    static MeshField loaded(int... data) {
        MeshField x = withMachines(1);
        Ask.pieces(x, data);
        x.load(0, 5);
        return x;
    }

    /** Machine 0 loses all of its BASIS. */
    static void tearAll(MeshField x) {
        for (int i = 0; i < 12; i++) {
            x.cut(0, true);
        }
    }

    static MeshField busy() {
        MeshField x = new MeshField();
        busy(x);
        return x;
    }

    /** At tick 40: four machines with letters of all kinds among them, some torn, some waiting, and two pieces told. */
    static void busy(MeshField x) {
        x.rules(2, 4, 50, 9);
        x.seed(4711);
        grow(x);
    }

    static void grow(MeshField x) {
        for (int i = 0; i < 4; i++) {
            x.machine();
        }
        for (int i = 0; i < 4; i++) {
            x.hears(i, (i + 1) % 4, 10);
            x.hears((i + 1) % 4, i, 20);
        }
        Ask.pieces(x, 3, 1 << 30, -77, 5);
        x.load(1, 40);
        x.ticks(34);
        x.turn(2, 40, 90);
        x.turn(0, 39, 80);
        x.cut(2, true);
        x.ticks(6);
        Ask.pieces(x, 11, -12);
    }
}
