/** Promises 1 to 6: a new object, seed, rules, machine, hears, piece. */
public final class SettingTest {
    private static final Check CHECK = new Check();

    public static void main(String[] args) {
        newObject();
        seedFromNowOn();
        rulesAtTheirEdges();
        rulesAtFirst();
        rulesRefusedChangeNothing();
        machinesComeUpToTwelve();
        machineComesAtTheTickAtHand();
        hearsAtItsEdges();
        hearsOneWay();
        hearsNoLonger();
        piecesUpToTwelve();
        CHECK.end();
    }

    private static void newObject() {
        MeshField x = new MeshField();
        int[] want = {0, 0, 0, 0, 0, MeshField.NONE};
        for (int what = 0; what < want.length; what++) {
            CHECK.due("new: about(" + what + ")", x.about(what), want[what]);
        }
        CHECK.due("NONE", MeshField.NONE, -1);
        CHECK.due("new: machineOf(0, 0)", x.machineOf(0, 0), -1);
        CHECK.due("new: data(0, 0)", x.data(0, 0), 0);
        CHECK.due("new: sum(0)", x.sum(0), 0);
        CHECK.due("new: cut(0)", x.cut(0, true), false);
        CHECK.due("no machines: ticks(3)", x.ticks(3), 3);
        CHECK.due("no machines: about(5)", x.about(Ask.ALL_WHOLE), -1);
        CHECK.due("no machines: about(2)", x.about(Ask.LETTERS), 0);
    }

    private static void seedFromNowOn() {
        int[] seeds = {0, 1, 2, -1, 77, 123456789, Integer.MIN_VALUE, Integer.MAX_VALUE};
        for (int s : seeds) {
            MeshField x = new MeshField();
            x.rules(2, 64, 1024, 6);
            x.machine();
            x.seed(s);
            Dice dice = new Dice(s);
            x.machine();
            CHECK.due("seed " + s + ": first TELLS-AT", x.machineOf(1, Ask.TELLS_AT), 32 + dice.below(32));
            x.machine();
            CHECK.due("seed " + s + ": second TELLS-AT", x.machineOf(2, Ask.TELLS_AT), 32 + dice.below(32));
        }
        MeshField x = new MeshField();
        x.rules(2, 63, 1024, 6);
        x.machine();
        CHECK.due("seed at first, odd SPAN", x.machineOf(0, Ask.TELLS_AT), 31 + new Dice(1).below(32));
    }

    private static void rulesAtTheirEdges() {
        int[][] good = {{1, 2, 2, 1}, {9, 64, 1024, 32}, {1, 64, 64, 1}, {5, 2, 1024, 32}, {2, 4, 64, 6}};
        for (int[] r : good) {
            MeshField x = new MeshField();
            CHECK.due("rules" + java.util.Arrays.toString(r), x.rules(r[0], r[1], r[2], r[3]), true);
            x.machine();
            CHECK.due("SPAN under rules" + java.util.Arrays.toString(r), x.machineOf(0, Ask.SPAN), r[1]);
        }
        int[][] bad = {{0, 4, 64, 6}, {10, 4, 64, 6}, {-1, 4, 64, 6}, {2, 1, 64, 6}, {2, 65, 128, 6},
            {2, -4, 64, 6}, {2, 4, 3, 6}, {2, 4, 1025, 6}, {2, 4, 64, 0}, {2, 4, 64, 33},
            {Integer.MIN_VALUE, 4, 64, 6}, {2, 4, Integer.MAX_VALUE, 6}, {2, 4, 64, Integer.MIN_VALUE}};
        for (int[] r : bad) {
            MeshField x = new MeshField();
            CHECK.due("rules" + java.util.Arrays.toString(r), x.rules(r[0], r[1], r[2], r[3]), false);
            x.machine();
            CHECK.due("SPAN after bad rules" + java.util.Arrays.toString(r), x.machineOf(0, Ask.SPAN), 4);
        }
    }

    private static void rulesAtFirst() {
        MeshField x = new MeshField();
        x.machine();
        int[] spans = {4, 8, 16, 32, 64, 64, 64};
        int began = 0;
        for (int span : spans) {
            CHECK.due("SPAN at tick " + began, x.machineOf(0, Ask.SPAN), span);
            CHECK.due("BEGAN at tick " + began, x.machineOf(0, Ask.BEGAN), began);
            began += span;
            x.ticks(span);
        }
    }

    private static void rulesRefusedChangeNothing() {
        MeshField x = new MeshField();
        x.rules(3, 8, 12, 5);
        x.rules(3, 16, 1025, 5);
        x.machine();
        CHECK.due("SPAN after refused rules", x.machineOf(0, Ask.SPAN), 8);
        CHECK.due("rules with a machine", x.rules(2, 4, 64, 6), false);
        x.machine();
        CHECK.due("SPAN of a machine after rules refused", x.machineOf(1, Ask.SPAN), 8);
        x.ticks(8);
        CHECK.due("SPAN doubled to HIGH at most", x.machineOf(0, Ask.SPAN), 12);
    }

    private static void machinesComeUpToTwelve() {
        MeshField x = new MeshField();
        for (int i = 0; i < 12; i++) {
            CHECK.due("machine()", x.machine(), i);
            CHECK.due("about(0)", x.about(Ask.MACHINES), i + 1);
        }
        CHECK.due("machine() with 12", x.machine(), -1);
        CHECK.due("about(0) with 12", x.about(Ask.MACHINES), 12);
        CHECK.due("machineOf(12, 5)", x.machineOf(12, Ask.SPAN), -1);
        CHECK.due("hears(0, 12)", x.hears(0, 12, 0), false);
        CHECK.due("hears(11, 0)", x.hears(11, 0, 0), true);
    }

    private static void machineComesAtTheTickAtHand() {
        MeshField x = new MeshField();
        x.rules(2, 20, 64, 6);
        x.ticks(17);
        x.seed(99);
        x.machine();
        int[] want = {0, 0, 0, 0, 0, 20, 17, 17 + 10 + new Dice(99).below(10), 0, -1, 0, 0, 0, 0, 0, 0, 0};
        for (int what = 0; what < want.length; what++) {
            CHECK.due("machine at tick 17: machineOf(0, " + what + ")", x.machineOf(0, what), want[what]);
        }
        CHECK.due("machine at tick 17: no BASIS", x.machineOf(0, Ask.MASK), -1);
    }

    private static void hearsAtItsEdges() {
        MeshField x = new MeshField();
        x.machine();
        x.machine();
        int[][] good = {{0, 1, 0}, {0, 1, 100}, {1, 0, 50}, {0, 1, -1}, {0, 1, -1}};
        for (int[] h : good) {
            CHECK.due("hears" + java.util.Arrays.toString(h), x.hears(h[0], h[1], h[2]), true);
        }
        int[][] bad = {{0, 0, 0}, {1, 1, -1}, {0, 2, 0}, {2, 0, 0}, {-1, 0, 0}, {0, -1, 0}, {0, 1, 101}, {0, 1, -2},
            {12, 13, 0}, {Integer.MIN_VALUE, 1, 0}, {0, Integer.MAX_VALUE, 0}, {0, 1, Integer.MIN_VALUE}};
        for (int[] h : bad) {
            CHECK.due("hears" + java.util.Arrays.toString(h), x.hears(h[0], h[1], h[2]), false);
        }
    }

    private static void hearsOneWay() {
        MeshField x = Pair.steady();
        x.hears(1, 0, 0);
        x.ticks(4);
        CHECK.due("1 hears 0: HEARD of 0", x.machineOf(0, Ask.HEARD), 0);
        CHECK.due("1 hears 0: lost at 0", x.machineOf(0, Ask.LOST), 0);
        MeshField y = Pair.steady();
        y.hears(1, 0, 0);
        y.ticks(1);
        CHECK.due("1 hears 0: HEARD of 1", y.machineOf(1, Ask.HEARD), 1);
    }

    private static void hearsNoLonger() {
        MeshField x = Pair.steady();
        x.hears(1, 0, 100);
        x.hears(1, 0, 101);
        x.ticks(1);
        CHECK.due("refused odds change nothing: lost", x.machineOf(1, Ask.LOST), 1);
        MeshField y = Pair.steady();
        y.hears(1, 0, 0);
        y.hears(1, 0, MeshField.NONE);
        y.ticks(1);
        CHECK.due("no longer heard: HEARD", y.machineOf(1, Ask.HEARD), 0);
        CHECK.due("no longer heard: lost", y.machineOf(1, Ask.LOST), 0);
    }

    private static void piecesUpToTwelve() {
        MeshField x = new MeshField();
        x.machine();
        for (int i = 1; i <= 12; i++) {
            CHECK.due("piece()", x.piece(i * 1000003), i);
            CHECK.due("about(4)", x.about(Ask.TOLD), i);
        }
        CHECK.due("piece() with 12", x.piece(5), -1);
        CHECK.due("about(4) with 12", x.about(Ask.TOLD), 12);
        CHECK.due("load of 12", x.load(0, 1), 12);
        CHECK.due("the 12th piece", x.data(0, 0), 12 * 1000003);
        CHECK.due("about(4) after load", x.about(Ask.TOLD), 0);
        CHECK.due("piece() after load", x.piece(Integer.MIN_VALUE), 1);
    }
}
