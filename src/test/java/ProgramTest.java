/** Promises 7 to 10, 13 and 14: load, turn, lie, cut, data, sum; and the BASIS of the terms. */
public final class ProgramTest {
    private static final Check CHECK = new Check();

    public static void main(String[] args) {
        loadKeepsWhole();
        loadRefused();
        loadNumbersAtTheirEdges();
        loadStirs();
        loadLeavesTheRest();
        sumWrapsAround();
        turnAtItsEdges();
        lieRefused();
        lieComesIntoTheBasis();
        lieIsFound();
        lieStirsIfItComesIn();
        lieEndsDataAt();
        headsAreTakenAway();
        cutTearsTheLeastHead();
        cutBeginsAnew();
        cutKeepsWhatRuns();
        CHECK.end();
    }

    private static MeshField loaded(int... data) {
        MeshField x = new MeshField();
        x.machine();
        Ask.pieces(x, data);
        x.load(0, 7);
        return x;
    }

    private static void basisIs(String name, MeshField x, int[]... mixes) {
        CHECK.due(name + ": RANK", x.machineOf(0, Ask.RANK), mixes.length);
        for (int i = 0; i < mixes.length; i++) {
            CHECK.due(name + ": MASK " + i, x.machineOf(0, Ask.MASK + i), mixes[i][0]);
            CHECK.due(name + ": data " + i, x.data(0, i), mixes[i][1]);
        }
        CHECK.due(name + ": MASK beyond", x.machineOf(0, Ask.MASK + mixes.length), -1);
        CHECK.due(name + ": data beyond", x.data(0, mixes.length), 0);
    }

    private static void loadKeepsWhole() {
        MeshField x = new MeshField();
        x.machine();
        x.machine();
        Ask.pieces(x, 10, 0, -30);
        CHECK.due("load(1, 7)", x.load(1, 7), 3);
        int[] want = {7, 3, 3, 1, 0};
        for (int what = 0; what < want.length; what++) {
            CHECK.due("loaded: machineOf(1, " + what + ")", x.machineOf(1, what), want[what]);
            CHECK.due("not loaded: machineOf(0, " + what + ")", x.machineOf(0, what), 0);
        }
        for (int i = 0; i < 3; i++) {
            CHECK.due("loaded: MASK " + i, x.machineOf(1, Ask.MASK + i), 4 >> i);
        }
        CHECK.due("data(1, 0)", x.data(1, 0), -30);
        CHECK.due("data(1, 1)", x.data(1, 1), 0);
        CHECK.due("data(1, 2)", x.data(1, 2), 10);
        int[] others = {3, -1, 11, 12, Integer.MIN_VALUE, Integer.MAX_VALUE};
        for (int i : others) {
            CHECK.due("data(1, " + i + ")", x.data(1, i), 0);
            CHECK.due("data(" + i + ", 0)", x.data(i, 0), 0);
            CHECK.due("sum(" + i + ")", x.sum(i), 0);
        }
        CHECK.due("sum(1)", x.sum(1), 10 + 0 - 90);
        CHECK.due("sum(0)", x.sum(0), 0);
        Ask.pieces(x, 4);
        CHECK.due("load of a greater one", x.load(1, 8), 1);
        CHECK.due("the older BASIS is gone", x.machineOf(1, Ask.MASK + 1), -1);
        CHECK.due("the older sum is gone", x.sum(1), 4);
    }

    private static void loadRefused() {
        MeshField x = new MeshField();
        x.machine();
        CHECK.due("load, none told", x.load(0, 5), -1);
        Ask.pieces(x, 1, 2);
        int[] numbers = {0, -1, 10000, Integer.MIN_VALUE, Integer.MAX_VALUE};
        for (int number : numbers) {
            CHECK.due("load(0, " + number + ")", x.load(0, number), -1);
        }
        int[] machines = {-1, 1, 12, Integer.MIN_VALUE, Integer.MAX_VALUE};
        for (int machine : machines) {
            CHECK.due("load(" + machine + ", 5)", x.load(machine, 5), -1);
        }
        CHECK.due("they stay", x.about(Ask.TOLD), 2);
        x.load(0, 5);
        Ask.pieces(x, 3);
        CHECK.due("load of its own NUMBER", x.load(0, 5), -1);
        CHECK.due("load of a lesser NUMBER", x.load(0, 4), -1);
        CHECK.due("they stay again", x.about(Ask.TOLD), 1);
        CHECK.due("what it kept stays", x.machineOf(0, Ask.PIECES), 2);
        x.machine();
        CHECK.due("a lesser NUMBER elsewhere", x.load(1, 4), 1);
    }

    private static void loadNumbersAtTheirEdges() {
        MeshField x = new MeshField();
        x.machine();
        Ask.pieces(x, 1);
        CHECK.due("load(0, 1)", x.load(0, 1), 1);
        Ask.pieces(x, 1);
        CHECK.due("load(0, 9999)", x.load(0, 9999), 1);
    }

    private static void loadStirs() {
        MeshField x = new MeshField();
        x.rules(2, 30, 200, 6);
        x.machine();
        int tellsAt = x.machineOf(0, Ask.TELLS_AT);
        x.ticks(10);
        Ask.pieces(x, 1);
        x.load(0, 1);
        CHECK.due("SPAN is LOW: BEGAN stays", x.machineOf(0, Ask.BEGAN), 0);
        CHECK.due("SPAN is LOW: TELLS-AT stays", x.machineOf(0, Ask.TELLS_AT), tellsAt);
        x.ticks(40);
        CHECK.due("SPAN has doubled", x.machineOf(0, Ask.SPAN), 60);
        Ask.pieces(x, 1);
        x.seed(5);
        x.load(0, 2);
        Dice dice = new Dice(5);
        CHECK.due("stirred: SPAN", x.machineOf(0, Ask.SPAN), 30);
        CHECK.due("stirred: BEGAN", x.machineOf(0, Ask.BEGAN), 51);
        CHECK.due("stirred: TELLS-AT", x.machineOf(0, Ask.TELLS_AT), 51 + 15 + dice.below(15));
        Ask.pieces(x, 1);
        x.load(0, 3);
        x.machine();
        CHECK.due("not stirred again, nothing drawn", x.machineOf(1, Ask.TELLS_AT), 50 + 15 + dice.below(15));
        x.ticks(30);
        CHECK.due("the stirred SPAN isn't over", x.machineOf(0, Ask.SPAN), 30);
        x.ticks(1);
        CHECK.due("the stirred SPAN is over", x.machineOf(0, Ask.SPAN), 60);
        CHECK.due("the next one began", x.machineOf(0, Ask.BEGAN), 81);
    }

    private static void loadLeavesTheRest() {
        MeshField x = Pair.steady(9, 32);
        Ask.pieces(x, 1);
        x.load(0, 3);
        x.turn(0, 2, 8);
        x.hears(0, 1, 0);
        x.hears(1, 0, 100);
        x.ticks(2);
        int dataAt = x.machineOf(0, Ask.DATA_AT);
        CHECK.due("DATA-AT is set", dataAt != -1, true);
        Ask.pieces(x, 1, 2);
        x.load(0, 4);
        CHECK.due("load leaves DATA-AT", x.machineOf(0, Ask.DATA_AT), dataAt);
        CHECK.due("load leaves the TURN", x.machineOf(0, Ask.TURN), 2);
        CHECK.due("load leaves TELLS", x.machineOf(0, Ask.TELLS), 1);
    }

    private static void sumWrapsAround() {
        int[] data = {Integer.MAX_VALUE, Integer.MIN_VALUE, 2000000000, -2000000000, 1, -1, 123456789,
            Integer.MAX_VALUE, 987654321, 5, 0, Integer.MAX_VALUE};
        MeshField x = loaded(data);
        CHECK.due("sum over 32 bits", x.sum(0), Ask.sumOf(data));
        x.cut(0, true);
        x.lie(0, 1, Integer.MAX_VALUE);
        CHECK.due("whole again over 32 bits", x.machineOf(0, Ask.WHOLE), 1);
    }

    private static void turnAtItsEdges() {
        MeshField x = new MeshField();
        x.machine();
        int[][] bad = {{1, 5, 5}, {-1, 5, 5}, {0, 0, 5}, {0, -1, 5}, {0, 10000, 5}, {0, 5, -1}, {0, 5, 1000001},
            {12, 5, 5}, {Integer.MIN_VALUE, 5, 5}, {0, Integer.MAX_VALUE, 5}, {0, 5, Integer.MIN_VALUE}};
        for (int[] t : bad) {
            CHECK.due("turn" + java.util.Arrays.toString(t), x.turn(t[0], t[1], t[2]), false);
            CHECK.due("no TURN taken", x.machineOf(0, Ask.TURN), 0);
        }
        int[][] good = {{1, 0}, {2, 1000000}, {9999, 3}};
        for (int[] t : good) {
            CHECK.due("turn" + java.util.Arrays.toString(t), x.turn(0, t[0], t[1]), true);
            CHECK.due("TURN", x.machineOf(0, Ask.TURN), t[0]);
            CHECK.due("TURN's tick", x.machineOf(0, Ask.TURN_TICK), t[1]);
            CHECK.due("the same NUMBER again", x.turn(0, t[0], 7), false);
            CHECK.due("a lesser NUMBER", x.turn(0, t[0] - 1, 7), false);
            CHECK.due("TURN's tick stays", x.machineOf(0, Ask.TURN_TICK), t[1]);
        }
    }

    private static void lieRefused() {
        MeshField x = new MeshField();
        x.machine();
        CHECK.due("lie, it keeps none", x.lie(0, 1, 1), false);
        Ask.pieces(x, 1, 2, 3);
        x.load(0, 1);
        int[] masks = {0, -1, 8, 9, 4095, Integer.MIN_VALUE, Integer.MAX_VALUE};
        for (int mask : masks) {
            CHECK.due("lie(0, " + mask + ")", x.lie(0, mask, 1), false);
        }
        int[] machines = {-1, 1, 12, Integer.MIN_VALUE, Integer.MAX_VALUE};
        for (int machine : machines) {
            CHECK.due("lie(" + machine + ", 1)", x.lie(machine, 1, 1), false);
        }
        CHECK.due("lie(0, 1)", x.lie(0, 1, 50), true);
        CHECK.due("lie(0, 7)", x.lie(0, 7, 50), true);
        basisIs("a whole BASIS takes no lie", x, new int[] {4, 3}, new int[] {2, 2}, new int[] {1, 1});
        CHECK.due("no LIE counted", x.machineOf(0, Ask.LIES), 0);
        MeshField y = loaded(1, 2, 3, 4, 5, 6, 7, 8, 9, 10, 11, 12);
        CHECK.due("all 12 PIECES", y.lie(0, 4095, 1), true);
        CHECK.due("more than 12", y.lie(0, 4096, 1), false);
        MeshField z = loaded(1);
        CHECK.due("one PIECE", z.lie(0, 1, 1), true);
        CHECK.due("more than one", z.lie(0, 2, 1), false);
    }

    private static void lieComesIntoTheBasis() {
        MeshField x = loaded(1, 2, 4);
        x.cut(0, true);
        basisIs("torn", x, new int[] {4, 4}, new int[] {2, 2});
        x.lie(0, 6, 99);
        basisIs("made of others, nothing comes", x, new int[] {4, 4}, new int[] {2, 2});
        x.lie(0, 7, 7);
        basisIs("the missing one comes", x, new int[] {4, 4}, new int[] {2, 2}, new int[] {1, 1});
        CHECK.due("whole", x.machineOf(0, Ask.WHOLE), 1);
        CHECK.due("no LIE counted", x.machineOf(0, Ask.LIES), 0);
    }

    private static void lieIsFound() {
        MeshField x = loaded(1, 2, 4);
        x.cut(0, true);
        x.lie(0, 5, 9);
        basisIs("a lie makes it whole: emptied", x);
        CHECK.due("LIE counted", x.machineOf(0, Ask.LIES), 1);
        CHECK.due("its NUMBER stays", x.machineOf(0, Ask.NUMBER), 7);
        CHECK.due("its PIECES stay", x.machineOf(0, Ask.PIECES), 3);
        CHECK.due("its SUM stays", x.sum(0), 17);
        CHECK.due("not whole", x.machineOf(0, Ask.WHOLE), 0);
        x.lie(0, 1, 5);
        x.lie(0, 2, 0);
        CHECK.due("not full yet, no LIE", x.machineOf(0, Ask.LIES), 1);
        x.lie(0, 4, 4);
        CHECK.due("other data of the same SUM are whole", x.machineOf(0, Ask.WHOLE), 1);
        CHECK.due("no LIE more", x.machineOf(0, Ask.LIES), 1);
        x.cut(0, true);
        x.lie(0, 1, 6);
        CHECK.due("a second LIE", x.machineOf(0, Ask.LIES), 2);
    }

    private static void lieStirsIfItComesIn() {
        MeshField x = new MeshField();
        x.rules(2, 30, 200, 6);
        x.machine();
        Ask.pieces(x, 1, 2);
        x.load(0, 1);
        x.cut(0, true);
        x.ticks(40);
        CHECK.due("SPAN has doubled", x.machineOf(0, Ask.SPAN), 60);
        x.lie(0, 2, 2);
        CHECK.due("nothing comes: not stirred", x.machineOf(0, Ask.SPAN), 60);
        x.seed(8);
        x.lie(0, 1, 77);
        CHECK.due("came, and found a LIE", x.machineOf(0, Ask.LIES), 1);
        CHECK.due("stirred: SPAN", x.machineOf(0, Ask.SPAN), 30);
        CHECK.due("stirred: BEGAN", x.machineOf(0, Ask.BEGAN), 41);
        CHECK.due("stirred: TELLS-AT", x.machineOf(0, Ask.TELLS_AT), 41 + 15 + new Dice(8).below(15));
    }

    private static void lieEndsDataAt() {
        for (int mask = 1; mask <= 2; mask++) {
            MeshField x = new MeshField();
            x.rules(9, 2, 2, 32);
            x.machine();
            Ask.pieces(x, 1, 2);
            x.load(0, 3);
            x.cut(0, true);
            x.turn(0, 2, 8);
            x.ticks(1);
            x.machine();
            x.hears(0, 1, 0);
            x.ticks(2);
            CHECK.due("DATA-AT is set", x.machineOf(0, Ask.DATA_AT) != -1, true);
            x.lie(0, mask, mask);
            CHECK.due("lie(0, " + mask + ") ends DATA-AT", x.machineOf(0, Ask.DATA_AT), -1);
            CHECK.due("a lie has no TURN", x.machineOf(0, Ask.TURN), 2);
        }
    }

    private static void headsAreTakenAway() {
        MeshField x = loaded(1, 2, 4, 8, 16);
        for (int i = 0; i < 5; i++) {
            x.cut(0, true);
        }
        basisIs("all torn", x);
        CHECK.due("torn with none left", x.cut(0, true), true);
        basisIs("none left", x);
        x.lie(0, 0b11111, 31);
        basisIs("one", x, new int[] {31, 31});
        x.lie(0, 0b11100, 28);
        basisIs("its HEAD is taken from the new one", x, new int[] {28, 28}, new int[] {3, 3});
        x.lie(0, 0b01011, 11);
        basisIs("the new HEAD is taken from those that have it", x,
            new int[] {20, 20}, new int[] {8, 8}, new int[] {3, 3});
        x.lie(0, 0b10000, 16);
        basisIs("a HEAD below comes", x, new int[] {16, 16}, new int[] {8, 8}, new int[] {4, 4}, new int[] {3, 3});
        x.lie(0, 0b11111, 1000);
        basisIs("made of others", x, new int[] {16, 16}, new int[] {8, 8}, new int[] {4, 4}, new int[] {3, 3});
        x.lie(0, 0b00010, 2);
        basisIs("whole", x, new int[] {16, 16}, new int[] {8, 8}, new int[] {4, 4}, new int[] {2, 2}, new int[] {1, 1});
    }

    private static void cutTearsTheLeastHead() {
        MeshField x = loaded(1, 2, 4);
        int[] none = {-1, 1, 12, Integer.MIN_VALUE, Integer.MAX_VALUE};
        for (int machine : none) {
            CHECK.due("cut(" + machine + ")", x.cut(machine, true), false);
        }
        CHECK.due("cut(0, false)", x.cut(0, false), true);
        basisIs("not torn", x, new int[] {4, 4}, new int[] {2, 2}, new int[] {1, 1});
        CHECK.due("cut(0, true)", x.cut(0, true), true);
        basisIs("torn", x, new int[] {4, 4}, new int[] {2, 2});
        CHECK.due("torn: not WHOLE", x.machineOf(0, Ask.WHOLE), 0);
        CHECK.due("torn: NUMBER stays", x.machineOf(0, Ask.NUMBER), 7);
        CHECK.due("torn: SUM stays", x.sum(0), 17);
        x.lie(0, 3, 3);
        x.cut(0, true);
        basisIs("torn again", x, new int[] {4, 4}, new int[] {2, 2});
        MeshField y = new MeshField();
        y.machine();
        CHECK.due("torn without a program", y.cut(0, true), true);
    }

    private static void cutBeginsAnew() {
        MeshField x = Pair.steady(9, 32);
        Ask.pieces(x, 1);
        x.load(0, 3);
        x.turn(0, 2, 8);
        x.hears(0, 1, 0);
        x.ticks(2);
        x.cut(0, false);
        CHECK.due("cut: DATA-AT", x.machineOf(0, Ask.DATA_AT), -1);
        CHECK.due("cut: TURN", x.machineOf(0, Ask.TURN), 0);
        CHECK.due("cut: TURN's tick", x.machineOf(0, Ask.TURN_TICK), 0);
        CHECK.due("a lesser TURN after a cut", x.turn(0, 1, 8), true);
        MeshField y = new MeshField();
        y.rules(2, 30, 200, 6);
        y.machine();
        y.ticks(5);
        y.seed(44);
        Dice dice = new Dice(44);
        y.cut(0, false);
        CHECK.due("cut at LOW: BEGAN", y.machineOf(0, Ask.BEGAN), 5);
        CHECK.due("cut at LOW: TELLS-AT", y.machineOf(0, Ask.TELLS_AT), 5 + 15 + dice.below(15));
        y.ticks(40);
        CHECK.due("SPAN has doubled", y.machineOf(0, Ask.SPAN), 60);
        y.seed(45);
        y.cut(0, true);
        CHECK.due("cut above LOW: SPAN", y.machineOf(0, Ask.SPAN), 30);
        CHECK.due("cut above LOW: BEGAN", y.machineOf(0, Ask.BEGAN), 45);
        CHECK.due("cut above LOW: TELLS-AT", y.machineOf(0, Ask.TELLS_AT), 45 + 15 + new Dice(45).below(15));
        MeshField z = Pair.steady();
        z.hears(1, 0, 0);
        z.ticks(1);
        CHECK.due("HEARD", z.machineOf(1, Ask.HEARD), 1);
        z.cut(1, false);
        CHECK.due("cut: HEARD", z.machineOf(1, Ask.HEARD), 0);
    }

    private static void cutKeepsWhatRuns() {
        MeshField x = loaded(1, 2);
        x.turn(0, 7, 0);
        x.ticks(1);
        CHECK.due("it RUNS", x.machineOf(0, Ask.RUNS), 7);
        x.cut(0, true);
        x.ticks(5);
        CHECK.due("it still RUNS", x.machineOf(0, Ask.RUNS), 7);
        CHECK.due("all were WHOLE once", x.about(Ask.ALL_WHOLE), 0);
    }
}
