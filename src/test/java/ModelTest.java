import java.util.Random;

/**
 * Long runs of mixed calls, laid beside the plain second telling of the document. All is asked after each call,
 * which is more than the 512 calls that are promised; the class counts no calls, so the answers stay the document's.
 */
public final class ModelTest {
    private static final Check CHECK = new Check();
    private static final int RUNS = 1200;
    private static final int CALLS = 160;

    private static long mixesSeen;
    private static long liesSeen;
    private static long spoiltSeen;
    private static long lostSeen;
    private static long runnersSeen;
    private static long wholeSeen;

    public static void main(String[] args) {
        for (int run = 0; run < RUNS && !CHECK.failed(); run++) {
            oneRun(run);
        }
        // A run in which nothing happens would prove nothing.
        CHECK.due("mixes were sent", mixesSeen > RUNS, true);
        CHECK.due("lies were found", liesSeen > RUNS / 10, true);
        CHECK.due("letters were spoilt", spoiltSeen > RUNS, true);
        CHECK.due("letters were lost", lostSeen > RUNS, true);
        CHECK.due("programs were run", runnersSeen > RUNS / 10, true);
        CHECK.due("fields were whole", wholeSeen > RUNS / 10, true);
        CHECK.end();
    }

    private static void oneRun(int run) {
        Random random = new Random(run);
        MeshField x = new MeshField();
        Model m = new Model();
        int low = 2 + random.nextInt(random.nextBoolean() ? 4 : 63);
        int high = Math.min(1024, low * (1 + random.nextInt(20)));
        int few = 1 + random.nextInt(9);
        int wait = 1 + random.nextInt(random.nextBoolean() ? 3 : 32);
        String name = "run " + run;
        if (random.nextInt(5) > 0) {
            CHECK.due(name + " rules", x.rules(few, low, high, wait), m.rules(few, low, high, wait));
        }
        int seed = random.nextInt();
        x.seed(seed);
        m.seed(seed);
        int machines = 1 + random.nextInt(6);
        for (int i = 0; i < machines; i++) {
            CHECK.due(name + " machine", x.machine(), m.machine());
        }
        int density = 1 + random.nextInt(10);
        for (int a = 0; a < machines; a++) {
            for (int b = 0; b < machines; b++) {
                if (random.nextInt(10) < density) {
                    int odds = random.nextInt(60);
                    CHECK.due(name + " hears", x.hears(a, b, odds), m.hears(a, b, odds));
                }
            }
        }
        // Calm fields come to agree, unlike those that are always being told something new.
        boolean calm = random.nextBoolean();
        for (int call = 0; call < CALLS && !CHECK.failed(); call++) {
            oneCall(name + " call " + call, random, x, m, calm && call > 20 && random.nextInt(8) > 0);
            compare(name + " call " + call, x, m);
        }
        count(x);
    }

    private static void oneCall(String name, Random random, MeshField x, Model m, boolean onlyTicks) {
        int machine = random.nextInt(40) == 0 ? random.nextInt(14) - 1 : random.nextInt(Math.max(1, m.about(0)));
        int kind = onlyTicks ? 0 : random.nextInt(100);
        if (kind < 50) {
            int n = random.nextInt(10) == 0 ? random.nextInt(203) - 1 : 1 + random.nextInt(8);
            CHECK.due(name + " ticks(" + n + ")", x.ticks(n), m.ticks(n));
        } else if (kind < 64) {
            int data = random.nextInt();
            CHECK.due(name + " piece", x.piece(data), m.piece(data));
        } else if (kind < 70) {
            int number = random.nextInt(4) == 0 ? 1 + random.nextInt(30) : greatest(m) + random.nextInt(3);
            CHECK.due(name + " load", x.load(machine, number), m.load(machine, number));
        } else if (kind < 78) {
            int number = greatest(m) + random.nextInt(2);
            int tick = m.about(1) + random.nextInt(40) - 5;
            CHECK.due(name + " turn", x.turn(machine, number, tick), m.turn(machine, number, tick));
        } else if (kind < 86) {
            int pieces = Math.max(0, m.machineOf(machine, 1));
            int mask = random.nextInt((1 << pieces) + 1);
            int data = random.nextInt();
            CHECK.due(name + " lie", x.lie(machine, mask, data), m.lie(machine, mask, data));
        } else if (kind < 92) {
            boolean torn = random.nextBoolean();
            CHECK.due(name + " cut", x.cut(machine, torn), m.cut(machine, torn));
        } else if (kind < 94) {
            CHECK.due(name + " machine", x.machine(), m.machine());
        } else if (kind < 98) {
            int other = random.nextInt(12);
            int odds = random.nextInt(104) - 2;
            CHECK.due(name + " hears", x.hears(machine, other, odds), m.hears(machine, other, odds));
        } else if (kind < 99) {
            int seed = random.nextInt();
            x.seed(seed);
            m.seed(seed);
        } else {
            CHECK.due(name + " rules", x.rules(2, 4, 64, 6), m.rules(2, 4, 64, 6));
        }
    }

    private static int greatest(Model m) {
        int top = 0;
        for (int i = 0; i < m.about(0); i++) {
            top = Math.max(top, m.machineOf(i, 0));
        }
        return top;
    }

    private static void compare(String name, MeshField x, Model m) {
        for (int what = -1; what < 7; what++) {
            CHECK.due(name + ": about(" + what + ")", x.about(what), m.about(what));
        }
        for (int i = 0; i < 12; i++) {
            CHECK.due(name + ": sum(" + i + ")", x.sum(i), m.sum(i));
            for (int what = -1; what < 18; what++) {
                CHECK.due(name + ": machineOf(" + i + ", " + what + ")", x.machineOf(i, what), m.machineOf(i, what));
            }
            for (int k = 0; k < 13; k++) {
                CHECK.due(name + ": MASK " + k + " of " + i, x.machineOf(i, 100 + k), m.machineOf(i, 100 + k));
                CHECK.due(name + ": data(" + i + ", " + k + ")", x.data(i, k), m.data(i, k));
            }
        }
    }

    private static void count(MeshField x) {
        for (int i = 0; i < x.about(Ask.MACHINES); i++) {
            mixesSeen += x.machineOf(i, Ask.MIXES);
            liesSeen += x.machineOf(i, Ask.LIES);
            spoiltSeen += x.machineOf(i, Ask.SPOILT);
            lostSeen += x.machineOf(i, Ask.LOST);
        }
        runnersSeen += x.about(Ask.RUNNERS);
        wholeSeen += x.about(Ask.ALL_WHOLE) == -1 ? 0 : 1;
    }
}
