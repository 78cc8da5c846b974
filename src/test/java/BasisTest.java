/** What the terms say of a BASIS, laid beside every way in which four MIXES of four PIECES can come to a machine. */
public final class BasisTest {
    private static final Check CHECK = new Check();
    private static final int PIECES = 4;
    private static final int MASKS = 1 << PIECES;

    public static void main(String[] args) {
        CHECK.sentence("a BASIS: MIXES none of which is made of others; each has as its HEAD the highest PIECE of its MASK, "
            + "no other one of the BASIS has that PIECE. RANK: how many.");
        int[] come = new int[PIECES];
        int ways = 1;
        for (int i = 0; i < PIECES; i++) {
            ways *= MASKS - 1;
        }
        for (int way = 0; way < ways && !CHECK.failed(); way++) {
            int rest = way;
            for (int i = 0; i < PIECES; i++) {
                come[i] = 1 + rest % (MASKS - 1);
                rest /= MASKS - 1;
            }
            oneWay(come);
        }
        CHECK.end();
    }

    /** The PIECES are 16, 32, 64 and 128, so that the data of a MIX that tells the truth are 16 times its MASK. */
    private static void oneWay(int[] come) {
        MeshField x = Fields.loaded(16, 32, 64, 128);
        for (int i = 0; i < PIECES; i++) {
            x.cut(0, true);
        }
        boolean[] made = new boolean[MASKS];
        made[0] = true;
        String name = "";
        for (int mask : come) {
            name += " " + mask;
            x.lie(0, mask, 16 * mask);
            takeIn(made, mask);
            basisIsOf(name + ":", x, made);
        }
    }

    /** All that can be put together of the MASKS that came, found without any BASIS. */
    private static void takeIn(boolean[] made, int mask) {
        boolean[] before = made.clone();
        for (int one = 0; one < MASKS; one++) {
            made[one] = before[one] || before[one ^ mask];
        }
    }

    private static void basisIsOf(String name, MeshField x, boolean[] made) {
        int count = 0;
        for (boolean is : made) {
            count += is ? 1 : 0;
        }
        int rank = x.machineOf(0, Ask.RANK);
        CHECK.due(name + " as many are made of the BASIS as of what came", 1 << rank, count);
        CHECK.due(name + " WHOLE", x.machineOf(0, Ask.WHOLE), rank == PIECES ? 1 : 0);
        CHECK.due(name + " LIES", x.machineOf(0, Ask.LIES), 0);
        int above = MASKS;
        for (int i = 0; i < rank; i++) {
            int mask = x.machineOf(0, Ask.MASK + i);
            int head = Integer.highestOneBit(mask);
            CHECK.due(name + " made of what came: " + mask, made[mask], true);
            CHECK.due(name + " its data: " + mask, x.data(0, i), 16 * mask);
            CHECK.due(name + " the HEADS fall: " + mask, head < above, true);
            above = head;
            for (int k = 0; k < rank; k++) {
                boolean other = k != i && (x.machineOf(0, Ask.MASK + k) & head) != 0;
                CHECK.due(name + " another one has the HEAD of " + mask, other, false);
            }
        }
        CHECK.due(name + " none beyond", x.machineOf(0, Ask.MASK + rank), -1);
    }
}
