import java.util.Random;

/** No call may throw, whatever its arguments, in whatever state, also beyond the 512th call. */
public final class WildTest {
    private static final Check CHECK = new Check();
    private static final int[] ODD = {Integer.MIN_VALUE, Integer.MIN_VALUE + 1, -65536, -101, -2, -1, 0, 1, 2, 3, 5, 9,
        10, 11, 12, 13, 31, 32, 33, 64, 99, 100, 101, 111, 112, 200, 201, 1024, 4095, 4096, 9999, 10000, 100000,
        1000000, 1000001, 1 << 30, Integer.MAX_VALUE - 1, Integer.MAX_VALUE};

    public static void main(String[] args) {
        for (int run = 0; run < 300; run++) {
            Random random = new Random(run);
            MeshField x = new MeshField();
            for (int call = 0; call < 700; call++) {
                boolean threw = false;
                try {
                    oneCall(x, random);
                } catch (RuntimeException | Error e) {
                    threw = true;
                    e.printStackTrace(System.out);
                }
                CHECK.due("run " + run + " call " + call + " threw", threw, false);
            }
        }
        CHECK.end();
    }

    private static int any(Random random) {
        return random.nextInt(3) == 0 ? ODD[random.nextInt(ODD.length)] : random.nextInt(14) - 1;
    }

    private static void oneCall(MeshField x, Random random) {
        int a = any(random);
        int b = any(random);
        int c = any(random);
        switch (random.nextInt(15)) {
            case 0: x.seed(random.nextInt()); break;
            case 1: x.rules(a, b, c, any(random)); break;
            case 2: x.machine(); break;
            case 3: x.hears(a, b, c); break;
            case 4: case 5: x.piece(random.nextInt()); break;
            case 6: x.load(a, b); break;
            case 7: x.turn(a, b, c); break;
            case 8: x.lie(a, b, c); break;
            case 9: x.cut(a, random.nextBoolean()); break;
            case 10: x.ticks(random.nextInt(4) == 0 ? 200 : a); break;
            case 11: x.machineOf(a, b); break;
            case 12: x.data(a, b); break;
            case 13: x.sum(a); break;
            default: x.about(a); break;
        }
    }
}
