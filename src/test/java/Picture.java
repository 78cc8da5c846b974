/** All that can be asked of one machine and of the field, each answer at a place of its own. */
final class Picture {
    /** The places 0 .. 16 are those of machineOf(). */
    static final int MASKS = 17;
    static final int DATA = 29;
    static final int SUM = 41;
    static final int ABOUT = 42;
    static final int SIZE = 48;

    private Picture() {
    }

    /** Of an object of its own, since an object is promised for 512 calls alone. */
    static int[] of(Twins.Telling past, int machine) {
        MeshField x = new MeshField();
        past.tell(x);
        int[] seen = new int[SIZE];
        for (int what = 0; what < MASKS; what++) {
            seen[what] = x.machineOf(machine, what);
        }
        for (int i = 0; i < 12; i++) {
            seen[MASKS + i] = x.machineOf(machine, Ask.MASK + i);
            seen[DATA + i] = x.data(machine, i);
        }
        seen[SUM] = x.sum(machine);
        for (int what = 0; what < SIZE - ABOUT; what++) {
            seen[ABOUT + what] = x.about(what);
        }
        return seen;
    }
}
