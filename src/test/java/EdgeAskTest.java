/** The edges of promises 12 to 15, a sentence at a time: the last question that is known and the first that is not. */
public final class EdgeAskTest {
    private static final Check CHECK = new Check();
    private static final int LEAST = Integer.MIN_VALUE;
    private static final int MOST = Integer.MAX_VALUE;

    public static void main(String[] args) {
        machineOfKnown();
        machineOfMasks();
        machineOfNoSuchMachine();
        machineOfOthers();
        machineOfNoDataAt();
        machineOfNoTurn();
        dataOfTheBasis();
        dataOfNoneSuch();
        sumOfTheKept();
        sumWithout();
        aboutKnown();
        runnersOfNumberNone();
        runnersOfTheGreatest();
        allWholeNotYet();
        allWholeFirstTick();
        allWholeSinceLoad();
        allWholeFromTheBeginning();
        aboutOthers();
        CHECK.end();
    }

    private static MeshField loaded(int count) {
        MeshField x = Fields.withMachines(1);
        for (int i = 1; i <= count; i++) {
            x.piece(50 + i);
        }
        x.load(0, 5);
        return x;
    }

    private static void machineOfKnown() {
        CHECK.sentence("Promise 12: Of a machine: 0 NUMBER .. 16 its tick");
        MeshField x = Fields.withMachines(12);
        x.turn(11, 6, 17);
        int[] want = {0, 0, 0, 0, 0, 4, 0, x.machineOf(11, Ask.TELLS_AT), 0, -1, 0, 0, 0, 0, 0, 6, 17};
        for (int what = 0; what < want.length; what++) {
            CHECK.due("machineOf(11, " + what + ")", x.machineOf(11, what), want[what]);
        }
    }

    private static void machineOfMasks() {
        CHECK.sentence("Promise 12: 100 + i: the MASK of the i-th of its BASIS (by falling HEADS).");
        for (int count = 1; count <= 12; count++) {
            MeshField x = loaded(count);
            CHECK.due("the first of " + count, x.machineOf(0, 100), 1 << (count - 1));
            CHECK.due("the last of " + count, x.machineOf(0, 100 + count - 1), 1);
            CHECK.due("beyond the last of " + count, x.machineOf(0, 100 + count), -1);
            CHECK.due("ahead of the first of " + count, x.machineOf(0, 99), -1);
        }
        MeshField none = Fields.withMachines(1);
        CHECK.due("the first of none", none.machineOf(0, 100), -1);
    }

    private static void machineOfNoSuchMachine() {
        CHECK.sentence("Promise 12: NONE for others. (no such machine)");
        int[] whats = {0, 1, 2, 3, 4, 5, 6, 7, 8, 9, 10, 11, 12, 13, 14, 15, 16, 100};
        for (int machine : Fields.NO_MACHINES) {
            MeshField x = Fields.busy();
            for (int what : whats) {
                CHECK.due("machineOf(" + machine + ", " + what + ")", x.machineOf(machine, what), -1);
            }
        }
        CHECK.due("machineOf(3, 0) of four", Fields.busy().machineOf(3, 0), 40);
        CHECK.due("machineOf(12, 0) of twelve", Fields.withMachines(12).machineOf(12, 0), -1);
        CHECK.due("machineOf(0, 0) without machines", new MeshField().machineOf(0, 0), -1);
    }

    private static void machineOfOthers() {
        CHECK.sentence("Promise 12: NONE for others. (what)");
        MeshField x = loaded(12);
        int[] others = {-1, 17, 18, 50, 99, 112, 113, 200, 1000, -100, LEAST, LEAST + 99, LEAST + 100, LEAST + 111, MOST};
        for (int what : others) {
            CHECK.due("machineOf(0, " + what + ")", x.machineOf(0, what), -1);
        }
        CHECK.due("machineOf(0, 16)", x.machineOf(0, 16), 0);
        CHECK.due("machineOf(0, 100)", x.machineOf(0, 100), 2048);
        CHECK.due("machineOf(0, 111)", x.machineOf(0, 111), 1);
    }

    private static void machineOfNoDataAt() {
        CHECK.sentence("Promise 12: 9 DATA-AT (NONE)");
        MeshField x = Fields.busy();
        CHECK.due("none", x.machineOf(0, Ask.DATA_AT), -1);
        CHECK.due("a tick", x.machineOf(1, Ask.DATA_AT), 44);
        x.ticks(4);
        CHECK.due("the tick at hand", x.machineOf(1, Ask.DATA_AT), x.about(Ask.TICK));
        x.ticks(1);
        CHECK.due("over", x.machineOf(1, Ask.DATA_AT), -1);
    }

    private static void machineOfNoTurn() {
        CHECK.sentence("Promise 12: 15 the TURN's NUMBER (0)");
        MeshField x = Fields.withMachines(1);
        CHECK.due("none", x.machineOf(0, Ask.TURN), 0);
        x.turn(0, 1, 0);
        CHECK.due("1", x.machineOf(0, Ask.TURN), 1);
        CHECK.due("at the tick 0", x.machineOf(0, Ask.TURN_TICK), 0);
        x.cut(0, false);
        CHECK.due("forgotten", x.machineOf(0, Ask.TURN), 0);
        x.turn(0, 1, 1000000);
        x.cut(0, false);
        CHECK.due("forgotten, its tick too", x.machineOf(0, Ask.TURN_TICK), 0);
    }

    private static void dataOfTheBasis() {
        CHECK.sentence("Promise 13: The data of the i-th of its BASIS.");
        for (int count = 1; count <= 12; count++) {
            MeshField x = loaded(count);
            CHECK.due("the first of " + count, x.data(0, 0), 50 + count);
            CHECK.due("the last of " + count, x.data(0, count - 1), 51);
        }
        MeshField twelfth = Fields.withMachines(12);
        twelfth.piece(LEAST);
        twelfth.load(11, 1);
        CHECK.due("data(11, 0)", twelfth.data(11, 0), LEAST);
    }

    private static void dataOfNoneSuch() {
        CHECK.sentence("Promise 13: 0 if there is none such.");
        for (int count = 1; count <= 12; count++) {
            MeshField x = loaded(count);
            int[] others = {-1, count, count + 1, 12, 100, LEAST, MOST};
            for (int i : others) {
                CHECK.due("data(0, " + i + ") of " + count, x.data(0, i), 0);
            }
            x.cut(0, true);
            CHECK.due("the last of " + count + ", torn", x.data(0, count - 1), 0);
        }
        for (int machine : Fields.NO_MACHINES) {
            CHECK.due("data(" + machine + ", 0)", Fields.busy().data(machine, 0), 0);
        }
        CHECK.due("data(1, 0) of four", Fields.busy().data(1, 0), 5);
        CHECK.due("it KEEPS none", Fields.withMachines(1).data(0, 0), 0);
        CHECK.due("without machines", new MeshField().data(0, 0), 0);
    }

    private static void sumOfTheKept() {
        CHECK.sentence("Promise 14: SUM of the PROGRAM that a machine KEEPS.");
        MeshField x = loaded(2);
        CHECK.due("sum(0)", x.sum(0), 51 + 2 * 52);
        x.cut(0, true);
        CHECK.due("torn", x.sum(0), 51 + 2 * 52);
        x.cut(0, true);
        CHECK.due("all torn", x.sum(0), 51 + 2 * 52);
        Ask.pieces(x, 2, -1);
        x.load(0, 6);
        CHECK.due("a SUM of 0", x.sum(0), 0);
        CHECK.due("WHOLE of it", x.machineOf(0, Ask.WHOLE), 1);
        MeshField last = Fields.withMachines(12);
        last.piece(-9);
        last.load(11, 9999);
        CHECK.due("sum(11)", last.sum(11), -9);
    }

    private static void sumWithout() {
        CHECK.sentence("Promise 14: 0 without.");
        MeshField x = Fields.withMachines(2);
        x.piece(7);
        CHECK.due("PIECES told alone", x.sum(0), 0);
        x.load(0, 1);
        CHECK.due("another one KEEPS it", x.sum(1), 0);
        for (int machine : Fields.NO_MACHINES) {
            CHECK.due("sum(" + machine + ")", Fields.busy().sum(machine), 0);
        }
        CHECK.due("sum(3) of four", Fields.busy().sum(3) != 0, true);
        CHECK.due("sum(12) of twelve", Fields.withMachines(12).sum(12), 0);
        CHECK.due("without machines", new MeshField().sum(0), 0);
    }

    private static void aboutKnown() {
        CHECK.sentence("Promise 15: 0 machines, 1 the tick, 2 letters sent, 4 PIECES told");
        MeshField x = new MeshField();
        CHECK.due("no machines", x.about(Ask.MACHINES), 0);
        CHECK.due("tick 0", x.about(Ask.TICK), 0);
        CHECK.due("no letters", x.about(Ask.LETTERS), 0);
        CHECK.due("no PIECES told", x.about(Ask.TOLD), 0);
        for (int i = 0; i < 13; i++) {
            x.machine();
            x.piece(i);
        }
        CHECK.due("12 machines", x.about(Ask.MACHINES), 12);
        CHECK.due("12 PIECES told", x.about(Ask.TOLD), 12);
        x.ticks(4);
        CHECK.due("tick 4", x.about(Ask.TICK), 4);
        CHECK.due("each told once", x.about(Ask.LETTERS), 12);
        x.ticks(201);
        CHECK.due("ticks refused", x.about(Ask.TICK), 4);
        MeshField both = Fields.busy();
        int sent = 0;
        int mixes = 0;
        for (int i = 0; i < 4; i++) {
            sent += both.machineOf(i, Ask.TELLS) + both.machineOf(i, Ask.MIXES);
            mixes += both.machineOf(i, Ask.MIXES);
        }
        CHECK.due("some are MIXES", mixes > 0, true);
        CHECK.due("letters of both kinds", both.about(Ask.LETTERS), sent);
    }

    private static void runnersOfNumberNone() {
        CHECK.sentence("Promise 15: 3 how many machines RUN the greatest NUMBER that one KEEPS (0 if that is 0)");
        CHECK.due("without machines", new MeshField().about(Ask.RUNNERS), 0);
        MeshField x = Fields.withMachines(12);
        CHECK.due("all RUN 0", x.about(Ask.RUNNERS), 0);
        x.turn(0, 1, 0);
        x.ticks(5);
        CHECK.due("a TURN of what none KEEPS", x.about(Ask.RUNNERS), 0);
        x.piece(1);
        CHECK.due("PIECES told alone", x.about(Ask.RUNNERS), 0);
        x.load(0, 1);
        CHECK.due("KEPT, not RUN yet", x.about(Ask.RUNNERS), 0);
        x.ticks(1);
        CHECK.due("RUN", x.about(Ask.RUNNERS), 1);
    }

    private static void runnersOfTheGreatest() {
        CHECK.sentence("Promise 15: 3 how many machines RUN the greatest NUMBER that one KEEPS");
        MeshField x = Fields.withMachines(12);
        for (int i = 0; i < 12; i++) {
            x.piece(i);
            x.load(i, 9998);
            x.turn(i, 9998, 1);
            CHECK.due("none RUNS ahead of its tick", x.about(Ask.RUNNERS), 0);
        }
        x.ticks(1);
        CHECK.due("all twelve", x.about(Ask.RUNNERS), 12);
        x.piece(1);
        x.load(3, 9999);
        CHECK.due("one KEEPS a greater one", x.about(Ask.RUNNERS), 0);
        x.turn(3, 9999, 0);
        x.ticks(1);
        CHECK.due("and RUNS it", x.about(Ask.RUNNERS), 1);
    }

    private static void allWholeNotYet() {
        CHECK.sentence("Promise 15: (NONE: not yet");
        MeshField x = Fields.withMachines(2);
        x.piece(7);
        x.load(0, 3);
        x.ticks(1);
        CHECK.due("one of two", x.about(Ask.ALL_WHOLE), -1);
        Ask.pieces(x, 7, 8);
        x.load(1, 3);
        x.cut(1, true);
        x.ticks(1);
        CHECK.due("all but one PIECE", x.about(Ask.ALL_WHOLE), -1);
        x.lie(1, 1, 7);
        CHECK.due("not at a tick's end", x.about(Ask.ALL_WHOLE), -1);
        x.ticks(1);
        CHECK.due("at a tick's end", x.about(Ask.ALL_WHOLE), 2);
        for (int less = 0; less < 12; less++) {
            MeshField y = Fields.withMachines(12);
            for (int i = 0; i < 12; i++) {
                y.piece(7);
                y.load(i, i == less ? 2 : 3);
            }
            y.ticks(1);
            CHECK.due("machine " + less + " WHOLE of one NUMBER less", y.about(Ask.ALL_WHOLE), -1);
            y.piece(7);
            y.load(less, 3);
            y.ticks(1);
            CHECK.due("machine " + less + " too", y.about(Ask.ALL_WHOLE), 1);
        }
    }

    private static void allWholeFirstTick() {
        CHECK.sentence("Promise 15: 5 the first tick at whose end all machines were WHOLE of that NUMBER");
        for (int at = 0; at < 4; at++) {
            MeshField x = Fields.withMachines(1);
            if (at > 0) {
                x.ticks(at);
            }
            x.piece(7);
            x.load(0, 3);
            x.ticks(1);
            CHECK.due("at " + at, x.about(Ask.ALL_WHOLE), at);
            x.ticks(1);
            CHECK.due("at " + at + ", a tick later", x.about(Ask.ALL_WHOLE), at);
            x.cut(0, true);
            x.ticks(1);
            x.lie(0, 1, 7);
            x.ticks(1);
            CHECK.due("at " + at + ", WHOLE again", x.about(Ask.ALL_WHOLE), at);
            x.machine();
            x.ticks(1);
            CHECK.due("at " + at + ", a machine more", x.about(Ask.ALL_WHOLE), at);
        }
    }

    private static void allWholeSinceLoad() {
        CHECK.sentence("Promise 15: (NONE: not yet, since load() told a greater one");
        MeshField x = Fields.withMachines(2);
        for (int i = 0; i < 2; i++) {
            x.piece(7);
            x.load(i, 3);
        }
        x.ticks(1);
        CHECK.due("all", x.about(Ask.ALL_WHOLE), 0);
        x.piece(9);
        CHECK.due("a refused load", x.load(0, 3), -1);
        CHECK.due("a refused load told none", x.about(Ask.ALL_WHOLE), 0);
        x.load(0, 4);
        CHECK.due("one greater by one", x.about(Ask.ALL_WHOLE), -1);
        x.ticks(3);
        CHECK.due("not yet", x.about(Ask.ALL_WHOLE), -1);
        x.piece(9);
        x.load(1, 4);
        x.ticks(1);
        CHECK.due("all of the greater one", x.about(Ask.ALL_WHOLE), 4);
        MeshField y = Fields.withMachines(1);
        y.piece(7);
        y.load(0, 3);
        y.ticks(1);
        y.machine();
        for (int number = 1; number <= 3; number++) {
            y.piece(7);
            y.load(1, number);
            CHECK.due("no greater one: " + number, y.about(Ask.ALL_WHOLE), 0);
        }
    }

    private static void allWholeFromTheBeginning() {
        CHECK.sentence("Promise 15: or from the beginning, of NUMBER 0 never)");
        MeshField x = new MeshField();
        CHECK.due("without machines", x.about(Ask.ALL_WHOLE), -1);
        x.ticks(200);
        CHECK.due("without machines, later", x.about(Ask.ALL_WHOLE), -1);
        x.machine();
        x.ticks(200);
        CHECK.due("all of NUMBER 0", x.about(Ask.ALL_WHOLE), -1);
        x.turn(0, 1, 0);
        x.ticks(1);
        CHECK.due("a TURN alone", x.about(Ask.ALL_WHOLE), -1);
    }

    private static void aboutOthers() {
        CHECK.sentence("Promise 15: NONE for others.");
        int[] others = {-1, -2, 6, 7, 12, 100, LEAST, MOST};
        for (int what : others) {
            CHECK.due("about(" + what + ")", Fields.busy().about(what), -1);
            CHECK.due("about(" + what + ") of a new one", new MeshField().about(what), -1);
        }
        CHECK.due("about(0)", Fields.busy().about(0), 4);
        MeshField x = loaded(1);
        x.ticks(1);
        CHECK.due("about(5)", x.about(5), 0);
    }
}
