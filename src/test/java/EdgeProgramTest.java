/** The edges of promises 7 to 10, a sentence at a time: the last value that is taken and the first that is not. */
public final class EdgeProgramTest {
    private static final Check CHECK = new Check();
    private static final int LEAST = Integer.MIN_VALUE;
    private static final int MOST = Integer.MAX_VALUE;

    public static void main(String[] args) {
        loadAnswersTheRank();
        loadLeavesNoneTold();
        loadStirs();
        loadAtNoSuchMachine();
        loadOfNoneTold();
        loadNotAboveItsOwn();
        loadOfOtherNumbers();
        turnTaken();
        turnAtNoSuchMachine();
        turnOfOtherNumbers();
        turnNotAboveItsOwn();
        turnAtOtherTicks();
        lieTaken();
        lieAtNoSuchMachine();
        lieWhereNoneIsKept();
        lieOfOtherMasks();
        lieHasNoTurn();
        lieWorksAsIfHeard();
        cutTornOrNot();
        cutTornWithoutOne();
        cutBeginsAnew();
        cutLeavesTheRest();
        cutOfNoneSuch();
        CHECK.end();
    }

    private static void tell(MeshField x, int count) {
        for (int i = 1; i <= count; i++) {
            x.piece(1000 + i);
        }
    }

    private static MeshField loaded(int count, int number) {
        MeshField x = Fields.withMachines(1);
        tell(x, count);
        x.load(0, number);
        return x;
    }

    private static void loadAnswersTheRank() {
        CHECK.sentence("Promise 7: The PIECES told (none then) are a PROGRAM that a machine KEEPS, WHOLE; RANK. (1 to 12)");
        for (int count = 1; count <= 12; count++) {
            MeshField x = Fields.withMachines(12);
            tell(x, count);
            CHECK.due("load(11, 1) of " + count, x.load(11, 1), count);
            CHECK.due("PIECES of " + count, x.machineOf(11, Ask.PIECES), count);
            CHECK.due("RANK of " + count, x.machineOf(11, Ask.RANK), count);
            CHECK.due("WHOLE of " + count, x.machineOf(11, Ask.WHOLE), 1);
            for (int i = 0; i < count; i++) {
                CHECK.due("MASK " + i + " of " + count, x.machineOf(11, Ask.MASK + i), 1 << (count - 1 - i));
                CHECK.due("data " + i + " of " + count, x.data(11, i), 1000 + count - i);
            }
        }
    }

    private static void loadLeavesNoneTold() {
        CHECK.sentence("Promise 7: The PIECES told (none then)");
        MeshField x = loaded(3, 5);
        CHECK.due("about(4)", x.about(Ask.TOLD), 0);
        CHECK.due("load(0, 6) at once", x.load(0, 6), -1);
        CHECK.due("NUMBER stays", x.machineOf(0, Ask.NUMBER), 5);
        CHECK.due("piece(9)", x.piece(9), 1);
        CHECK.due("load(0, 6) of one", x.load(0, 6), 1);
        CHECK.due("no PIECE of the older one", x.machineOf(0, Ask.MASK + 1), -1);
        CHECK.due("sum(0)", x.sum(0), 9);
    }

    private static void loadStirs() {
        CHECK.sentence("Promise 7: it is STIRRED as if by a letter of this tick");
        MeshField x = new MeshField();
        x.rules(2, 4, 5, 6);
        x.machine();
        x.ticks(4);
        CHECK.due("SPAN, one above LOW", x.machineOf(0, Ask.SPAN), 5);
        x.piece(1);
        x.seed(Dice.seedOf(2, 1));
        x.load(0, 1);
        CHECK.due("SPAN is LOW", x.machineOf(0, Ask.SPAN), 4);
        CHECK.due("BEGAN at the next tick", x.machineOf(0, Ask.BEGAN), 5);
        CHECK.due("TELLS-AT, drawn at once", x.machineOf(0, Ask.TELLS_AT), 5 + 2 + 1);
        x.piece(1);
        x.seed(Dice.seedOf(2, 0));
        x.load(0, 2);
        CHECK.due("SPAN was LOW: TELLS-AT stays", x.machineOf(0, Ask.TELLS_AT), 8);
        x.ticks(1);
        x.piece(1);
        x.load(0, 3);
        CHECK.due("SPAN was LOW: BEGAN stays", x.machineOf(0, Ask.BEGAN), 5);
    }

    private static void loadAtNoSuchMachine() {
        CHECK.sentence("Promise 7: NONE, and they stay: no such machine");
        for (int machine : Fields.NO_MACHINES) {
            MeshField x = Fields.withMachines(4);
            tell(x, 2);
            CHECK.due("load(" + machine + ", 5)", x.load(machine, 5), -1);
            CHECK.due("they stay", x.about(Ask.TOLD), 2);
            CHECK.due("load(3, 5)", x.load(3, 5), 2);
            Twins.refused(CHECK, "load(" + machine + ", 900)", Fields::busy, y -> y.load(machine, 900));
        }
        MeshField y = Fields.withMachines(12);
        tell(y, 1);
        CHECK.due("load(12, 5) of twelve", y.load(12, 5), -1);
        CHECK.due("load(11, 5) of twelve", y.load(11, 5), 1);
        MeshField z = new MeshField();
        tell(z, 12);
        CHECK.due("load(0, 5) without machines", z.load(0, 5), -1);
        CHECK.due("all 12 stay", z.about(Ask.TOLD), 12);
        CHECK.due("the 13th", z.piece(1), -1);
    }

    private static void loadOfNoneTold() {
        CHECK.sentence("Promise 7: NONE, and they stay: none told");
        MeshField x = Fields.withMachines(1);
        CHECK.due("load(0, 5)", x.load(0, 5), -1);
        CHECK.due("NUMBER", x.machineOf(0, Ask.NUMBER), 0);
        CHECK.due("about(4)", x.about(Ask.TOLD), 0);
        CHECK.due("piece(0)", x.piece(0), 1);
        CHECK.due("load(0, 5) of one PIECE, 0", x.load(0, 5), 1);
        Twins.refused(CHECK, "load(1, 41)", y -> {
            Fields.busy(y);
            y.load(0, 50);
        }, y -> y.load(1, 41));
    }

    private static void loadNotAboveItsOwn() {
        CHECK.sentence("Promise 7: NONE, and they stay: NUMBER not above its own");
        int[] owned = {1, 2, 5000, 9998};
        for (int own : owned) {
            MeshField x = loaded(3, own);
            tell(x, 2);
            CHECK.due("load(0, own " + own + ")", x.load(0, own), -1);
            CHECK.due("load(0, one below " + own + ")", x.load(0, own - 1), -1);
            CHECK.due("they stay", x.about(Ask.TOLD), 2);
            CHECK.due("NUMBER stays", x.machineOf(0, Ask.NUMBER), own);
            CHECK.due("RANK stays", x.machineOf(0, Ask.RANK), 3);
            CHECK.due("load(0, one above " + own + ")", x.load(0, own + 1), 2);
            CHECK.due("NUMBER", x.machineOf(0, Ask.NUMBER), own + 1);
        }
        MeshField last = loaded(1, 9999);
        tell(last, 1);
        CHECK.due("load(0, 9999) of 9999", last.load(0, 9999), -1);
        CHECK.due("load(0, 10000) of 9999", last.load(0, 10000), -1);
        MeshField two = Fields.withMachines(2);
        tell(two, 1);
        two.load(0, 5);
        tell(two, 1);
        CHECK.due("below that of another machine", two.load(1, 4), 1);
        Twins.refused(CHECK, "load(1, 40)", Fields::busy, y -> y.load(1, 40));
        Twins.refused(CHECK, "load(1, 39)", Fields::busy, y -> y.load(1, 39));
    }

    private static void loadOfOtherNumbers() {
        CHECK.sentence("Promise 7: NONE, and they stay: NUMBER not above its own or others. (1 .. 9999)");
        int[] others = {0, -1, 10000, 10001, LEAST, MOST};
        for (int number : others) {
            MeshField x = Fields.withMachines(1);
            tell(x, 2);
            CHECK.due("load(0, " + number + ")", x.load(0, number), -1);
            CHECK.due("they stay", x.about(Ask.TOLD), 2);
            CHECK.due("NUMBER", x.machineOf(0, Ask.NUMBER), 0);
            Twins.refused(CHECK, "load(0, " + number + ")", Fields::busy, y -> y.load(0, number));
        }
        CHECK.due("NUMBER 1", loaded(2, 1).machineOf(0, Ask.NUMBER), 1);
        CHECK.due("NUMBER 9999", loaded(2, 9999).machineOf(0, Ask.NUMBER), 9999);
    }

    private static void turnTaken() {
        CHECK.sentence("Promise 8: A TURN is told at a machine: true. (NUMBER 1 .. 9999, tick 0 .. 1000000)");
        int[][] taken = {{0, 1, 0}, {0, 1, 1000000}, {0, 9999, 0}, {11, 9999, 1000000}, {11, 1, 1}, {5, 9998, 999999}};
        for (int[] t : taken) {
            MeshField x = Fields.withMachines(12);
            CHECK.due(nameOf(t), x.turn(t[0], t[1], t[2]), true);
            CHECK.due(nameOf(t) + ": NUMBER", x.machineOf(t[0], Ask.TURN), t[1]);
            CHECK.due(nameOf(t) + ": tick", x.machineOf(t[0], Ask.TURN_TICK), t[2]);
            CHECK.due(nameOf(t) + ": no other machine has it", x.machineOf(t[0] == 0 ? 1 : 0, Ask.TURN), 0);
        }
    }

    private static void turnAtNoSuchMachine() {
        CHECK.sentence("Promise 8: False: others (no such machine)");
        for (int machine : Fields.NO_MACHINES) {
            CHECK.due("turn(" + machine + ", 5, 5)", Fields.withMachines(4).turn(machine, 5, 5), false);
            Twins.refused(CHECK, "turn(" + machine + ", 900, 50)", Fields::busy, y -> y.turn(machine, 900, 50));
        }
        CHECK.due("turn(3, 5, 5) of four", Fields.withMachines(4).turn(3, 5, 5), true);
        CHECK.due("turn(12, 5, 5) of twelve", Fields.withMachines(12).turn(12, 5, 5), false);
        CHECK.due("turn(0, 5, 5) without machines", new MeshField().turn(0, 5, 5), false);
    }

    private static void turnOfOtherNumbers() {
        CHECK.sentence("Promise 8: False: NUMBER (1 .. 9999)");
        int[] others = {0, -1, 10000, 10001, LEAST, MOST};
        for (int number : others) {
            MeshField x = Fields.withMachines(1);
            CHECK.due("turn(0, " + number + ", 5)", x.turn(0, number, 5), false);
            CHECK.due("no TURN", x.machineOf(0, Ask.TURN), 0);
            Twins.refused(CHECK, "turn(1, " + number + ", 50)", Fields::busy, y -> y.turn(1, number, 50));
        }
    }

    private static void turnNotAboveItsOwn() {
        CHECK.sentence("Promise 8: False: NUMBER not above that of the TURN it has");
        int[] owned = {1, 2, 5000, 9998};
        for (int own : owned) {
            MeshField x = Fields.withMachines(2);
            x.turn(0, own, 300);
            CHECK.due("turn(0, own " + own + ", 5)", x.turn(0, own, 5), false);
            CHECK.due("turn(0, one below " + own + ", 5)", x.turn(0, own - 1, 5), false);
            CHECK.due("NUMBER stays", x.machineOf(0, Ask.TURN), own);
            CHECK.due("tick stays", x.machineOf(0, Ask.TURN_TICK), 300);
            CHECK.due("turn(0, one above " + own + ", 5)", x.turn(0, own + 1, 5), true);
            CHECK.due("tick", x.machineOf(0, Ask.TURN_TICK), 5);
            CHECK.due("below that of another machine", x.turn(1, 1, 5), true);
        }
        MeshField last = Fields.withMachines(1);
        last.turn(0, 9999, 300);
        CHECK.due("turn(0, 9999, 5) of 9999", last.turn(0, 9999, 5), false);
        CHECK.due("turn(0, 10000, 5) of 9999", last.turn(0, 10000, 5), false);
        MeshField kept = loaded(1, 7);
        CHECK.due("below the NUMBER that it KEEPS", kept.turn(0, 6, 5), true);
        Twins.refused(CHECK, "turn(0, 39, 50)", Fields::busy, y -> y.turn(0, 39, 50));
        Twins.refused(CHECK, "turn(0, 38, 50)", Fields::busy, y -> y.turn(0, 38, 50));
    }

    private static void turnAtOtherTicks() {
        CHECK.sentence("Promise 8: False: tick 0 .. 1000000.");
        int[] others = {-1, -2, 1000001, 1000002, LEAST, MOST};
        for (int tick : others) {
            MeshField x = Fields.withMachines(1);
            CHECK.due("turn(0, 5, " + tick + ")", x.turn(0, 5, tick), false);
            CHECK.due("no TURN", x.machineOf(0, Ask.TURN), 0);
            CHECK.due("no tick", x.machineOf(0, Ask.TURN_TICK), 0);
            Twins.refused(CHECK, "turn(0, 41, " + tick + ")", Fields::busy, y -> y.turn(0, 41, tick));
        }
        MeshField late = Fields.withMachines(1);
        late.ticks(50);
        CHECK.due("a tick that is over", late.turn(0, 5, 0), true);
    }

    /** Of so many PIECES, with a BASIS of none. */
    private static MeshField emptied(int count) {
        MeshField x = loaded(count, 5);
        Fields.tearAll(x);
        return x;
    }

    private static void lieTaken() {
        CHECK.sentence("Promise 9: A lying MIX comes to a machine as if heard: true. (MASK 1 to all its PIECES)");
        for (int count = 1; count <= 12; count++) {
            int all = (1 << count) - 1;
            int[] masks = {1, 1 << (count - 1), all};
            for (int mask : masks) {
                CHECK.due("lie(0, " + mask + ") of " + count, loaded(count, 5).lie(0, mask, 3), true);
                MeshField x = emptied(count);
                CHECK.due("lie(0, " + mask + ") of " + count + ", all torn", x.lie(0, mask, 3), true);
                // Of one PIECE, any MIX makes it full, and 3 is a LIE.
                CHECK.due("lie(0, " + mask + ") of " + count + ": MASK", x.machineOf(0, Ask.MASK), count == 1 ? -1 : mask);
                CHECK.due("lie(0, " + mask + ") of " + count + ": data", x.data(0, 0), count == 1 ? 0 : 3);
                CHECK.due("lie(0, " + mask + ") of " + count + ": LIES", x.machineOf(0, Ask.LIES), count == 1 ? 1 : 0);
            }
        }
    }

    private static void lieAtNoSuchMachine() {
        CHECK.sentence("Promise 9: False: no such machine");
        for (int machine : Fields.NO_MACHINES) {
            MeshField x = Fields.withMachines(4);
            tell(x, 2);
            x.load(3, 5);
            CHECK.due("lie(" + machine + ", 1, 1)", x.lie(machine, 1, 1), false);
            CHECK.due("lie(3, 1, 1)", x.lie(3, 1, 1), true);
            Twins.refused(CHECK, "lie(" + machine + ", 2, 8)", Fields::busy, y -> y.lie(machine, 2, 8));
        }
        CHECK.due("lie(0, 1, 1) without machines", new MeshField().lie(0, 1, 1), false);
    }

    private static void lieWhereNoneIsKept() {
        CHECK.sentence("Promise 9: False: it KEEPS none");
        int[] masks = {-1, 0, 1, 2, 4095, 4096};
        for (int mask : masks) {
            MeshField x = Fields.withMachines(2);
            tell(x, 2);
            CHECK.due("lie(0, " + mask + ", 1)", x.lie(0, mask, 1), false);
            CHECK.due("RANK", x.machineOf(0, Ask.RANK), 0);
            CHECK.due("LIES", x.machineOf(0, Ask.LIES), 0);
            Twins.refused(CHECK, "lie(4, " + mask + ", 8)", y -> {
                Fields.busy(y);
                y.machine();
            }, y -> y.lie(4, mask, 8));
        }
        MeshField torn = emptied(2);
        CHECK.due("it KEEPS one, all torn", torn.lie(0, 1, 1), true);
    }

    private static void lieOfOtherMasks() {
        CHECK.sentence("Promise 9: False: MASK not 1 to all its PIECES.");
        for (int count = 1; count <= 12; count++) {
            int[] others = {0, -1, 1 << count, (1 << count) + 1, (1 << (count + 1)) - 1, LEAST, LEAST + 1, MOST};
            for (int mask : others) {
                MeshField x = emptied(count);
                CHECK.due("lie(0, " + mask + ", 1) of " + count, x.lie(0, mask, 1), false);
                CHECK.due("lie(0, " + mask + ", 1) of " + count + ": RANK", x.machineOf(0, Ask.RANK), 0);
            }
        }
        int[] othersOfFour = {0, -1, 16, 17, 31, LEAST, MOST};
        for (int mask : othersOfFour) {
            Twins.refused(CHECK, "lie(2, " + mask + ", 8)", Fields::busy, y -> y.lie(2, mask, 8));
        }
    }

    private static void lieHasNoTurn() {
        CHECK.sentence("Promise 9: (of the NUMBER, PIECES and SUM that it KEEPS, without a TURN)");
        MeshField x = emptied(3);
        x.lie(0, 7, 1);
        CHECK.due("without one: TURN", x.machineOf(0, Ask.TURN), 0);
        CHECK.due("NUMBER", x.machineOf(0, Ask.NUMBER), 5);
        CHECK.due("PIECES", x.machineOf(0, Ask.PIECES), 3);
        CHECK.due("SUM", x.sum(0), Ask.sumOf(1001, 1002, 1003));
        x.turn(0, 1, 9);
        x.lie(0, 2, 1);
        CHECK.due("with one: TURN", x.machineOf(0, Ask.TURN), 1);
        CHECK.due("with one: tick", x.machineOf(0, Ask.TURN_TICK), 9);
    }

    private static void lieWorksAsIfHeard() {
        CHECK.sentence("Promise 9: A lying MIX comes to a machine as if heard");
        int[] masks = {1, 2, 3};
        for (int mask : masks) {
            MeshField x = new MeshField();
            x.rules(2, 4, 5, 6);
            x.machine();
            tell(x, 2);
            x.load(0, 1);
            x.cut(0, true);
            x.ticks(4);
            CHECK.due("SPAN, one above LOW", x.machineOf(0, Ask.SPAN), 5);
            x.seed(Dice.seedOf(2, 1));
            CHECK.due("lie(0, " + mask + ", 1)", x.lie(0, mask, 1), true);
            boolean came = mask != 2;
            CHECK.due(mask + ": SPAN", x.machineOf(0, Ask.SPAN), came ? 4 : 5);
            CHECK.due(mask + ": BEGAN", x.machineOf(0, Ask.BEGAN), came ? 5 : 4);
            CHECK.due(mask + ": LIES", x.machineOf(0, Ask.LIES), came ? 1 : 0);
        }
        int[] both = {2, 1};
        for (int mask : both) {
            MeshField x = Fields.busy();
            CHECK.due("DATA-AT ahead of it", x.machineOf(1, Ask.DATA_AT), 44);
            x.lie(1, mask, 1);
            CHECK.due("lie(1, " + mask + ", 1): DATA-AT", x.machineOf(1, Ask.DATA_AT), -1);
        }
    }

    private static void cutTornOrNot() {
        CHECK.sentence("Promise 10: the one of its BASIS with the least HEAD is torn and goes (if torn, and there is one)");
        for (int count = 1; count <= 12; count++) {
            MeshField x = loaded(count, 5);
            CHECK.due("cut(0, false) of " + count, x.cut(0, false), true);
            CHECK.due("not torn: RANK", x.machineOf(0, Ask.RANK), count);
            CHECK.due("cut(0, true) of " + count, x.cut(0, true), true);
            CHECK.due("torn: RANK", x.machineOf(0, Ask.RANK), count - 1);
            CHECK.due("torn: the last one of " + count, x.machineOf(0, Ask.MASK + count - 1), -1);
            CHECK.due("torn: its data", x.data(0, count - 1), 0);
            CHECK.due("torn: WHOLE", x.machineOf(0, Ask.WHOLE), 0);
            for (int i = 0; i < count - 1; i++) {
                CHECK.due("torn: MASK " + i + " of " + count, x.machineOf(0, Ask.MASK + i), 1 << (count - 1 - i));
            }
        }
    }

    private static void cutTornWithoutOne() {
        CHECK.sentence("Promise 10: (if torn, and there is one)");
        MeshField x = emptied(2);
        CHECK.due("cut(0, true), all torn", x.cut(0, true), true);
        CHECK.due("all torn: RANK", x.machineOf(0, Ask.RANK), 0);
        CHECK.due("all torn: NUMBER", x.machineOf(0, Ask.NUMBER), 5);
        CHECK.due("all torn: PIECES", x.machineOf(0, Ask.PIECES), 2);
        MeshField y = Fields.withMachines(1);
        CHECK.due("cut(0, true), it KEEPS none", y.cut(0, true), true);
        CHECK.due("it KEEPS none: RANK", y.machineOf(0, Ask.RANK), 0);
        y.piece(4);
        CHECK.due("it can KEEP one then", y.load(0, 1), 1);
    }

    private static void cutBeginsAnew() {
        CHECK.sentence("Promise 10: SPAN is LOW, one BEGINS at the tick at hand, DATA-AT is none, the TURN is forgotten");
        for (int ticks = 7; ticks <= 8; ticks++) {
            MeshField x = new MeshField();
            x.rules(2, 8, 9, 6);
            x.machine();
            x.ticks(ticks);
            x.turn(0, 9999, 1000000);
            CHECK.due("SPAN ahead of it", x.machineOf(0, Ask.SPAN), ticks + 1);
            x.seed(Dice.seedOf(4, 3));
            CHECK.due("cut(0, false)", x.cut(0, false), true);
            CHECK.due("SPAN", x.machineOf(0, Ask.SPAN), 8);
            CHECK.due("BEGAN", x.machineOf(0, Ask.BEGAN), ticks);
            CHECK.due("TELLS-AT", x.machineOf(0, Ask.TELLS_AT), ticks + 4 + 3);
            CHECK.due("TURN", x.machineOf(0, Ask.TURN), 0);
            CHECK.due("a TURN of 1 is above none", x.turn(0, 1, 3), true);
        }
        MeshField y = new MeshField();
        Fields.busy(y);
        CHECK.due("DATA-AT ahead of it", y.machineOf(1, Ask.DATA_AT), 44);
        y.cut(1, false);
        CHECK.due("DATA-AT", y.machineOf(1, Ask.DATA_AT), -1);
    }

    private static void cutLeavesTheRest() {
        CHECK.sentence("Promise 10: what it RUNS stays");
        MeshField x = loaded(1, 5);
        x.turn(0, 5, 0);
        x.ticks(3);
        int tells = x.machineOf(0, Ask.TELLS);
        x.cut(0, true);
        CHECK.due("RUNS", x.machineOf(0, Ask.RUNS), 5);
        CHECK.due("TELLS", x.machineOf(0, Ask.TELLS), tells);
        x.ticks(1);
        CHECK.due("RUNS later, though not WHOLE", x.machineOf(0, Ask.RUNS), 5);
        x.piece(3);
        x.load(0, 6);
        x.cut(0, false);
        x.ticks(1);
        CHECK.due("RUNS later, though it KEEPS another", x.machineOf(0, Ask.RUNS), 5);
    }

    private static void cutOfNoneSuch() {
        CHECK.sentence("Promise 10: False: there is none such.");
        for (int machine : Fields.NO_MACHINES) {
            CHECK.due("cut(" + machine + ", true)", Fields.withMachines(4).cut(machine, true), false);
            CHECK.due("cut(" + machine + ", false)", Fields.withMachines(4).cut(machine, false), false);
            Twins.refused(CHECK, "cut(" + machine + ", true)", Fields::busy, y -> y.cut(machine, true));
        }
        CHECK.due("cut(3, true) of four", Fields.withMachines(4).cut(3, true), true);
        CHECK.due("cut(0, false) of one", Fields.withMachines(1).cut(0, false), true);
        CHECK.due("cut(11, true) of twelve", Fields.withMachines(12).cut(11, true), true);
        CHECK.due("cut(12, true) of twelve", Fields.withMachines(12).cut(12, true), false);
        CHECK.due("cut(0, true) without machines", new MeshField().cut(0, true), false);
    }

    private static String nameOf(int[] t) {
        return "turn(" + t[0] + ", " + t[1] + ", " + t[2] + ")";
    }
}
