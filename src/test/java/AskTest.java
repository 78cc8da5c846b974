/** Promises 12 and 15: machineOf and about, with what they answer to others. */
public final class AskTest {
    private static final Check CHECK = new Check();

    public static void main(String[] args) {
        machineOfOthers();
        machineOfMasks();
        aboutOthers();
        aboutLetters();
        aboutRunners();
        aboutAllWhole();
        aboutAllWholeSinceLoad();
        askingChangesNothing();
        CHECK.end();
    }

    private static void machineOfOthers() {
        MeshField x = new MeshField();
        x.machine();
        int[] others = {-1, 17, 18, 50, 99, 100, 101, 111, 112, 200, Integer.MIN_VALUE, Integer.MAX_VALUE};
        for (int what : others) {
            CHECK.due("machineOf(0, " + what + ")", x.machineOf(0, what), -1);
        }
        int[] machines = {-1, 1, 11, 12, Integer.MIN_VALUE, Integer.MAX_VALUE};
        for (int machine : machines) {
            for (int what = -1; what < 18; what++) {
                CHECK.due("machineOf(" + machine + ", " + what + ")", x.machineOf(machine, what), -1);
            }
            CHECK.due("machineOf(" + machine + ", 100)", x.machineOf(machine, 100), -1);
        }
        CHECK.due("a machine that keeps none isn't WHOLE", x.machineOf(0, Ask.WHOLE), 0);
    }

    private static void machineOfMasks() {
        MeshField x = new MeshField();
        x.machine();
        for (int i = 0; i < 12; i++) {
            x.piece(i);
        }
        x.load(0, 9);
        for (int i = 0; i < 12; i++) {
            CHECK.due("MASK " + i, x.machineOf(0, Ask.MASK + i), 1 << (11 - i));
            CHECK.due("data " + i, x.data(0, i), 11 - i);
        }
        CHECK.due("MASK 12", x.machineOf(0, Ask.MASK + 12), -1);
        CHECK.due("MASK -1", x.machineOf(0, Ask.MASK - 1), -1);
    }

    private static void aboutOthers() {
        MeshField x = new MeshField();
        int[] others = {-1, 6, 7, 100, Integer.MIN_VALUE, Integer.MAX_VALUE};
        for (int what : others) {
            CHECK.due("about(" + what + ")", x.about(what), -1);
        }
    }

    private static void aboutLetters() {
        MeshField x = new MeshField();
        for (int i = 0; i < 5; i++) {
            x.machine();
            x.ticks(3);
        }
        x.hears(0, 1, 10);
        x.hears(1, 0, 10);
        x.hears(2, 0, 10);
        Ask.pieces(x, 3, 4);
        x.load(0, 1);
        x.ticks(200);
        int sent = 0;
        for (int i = 0; i < 5; i++) {
            sent += x.machineOf(i, Ask.TELLS) + x.machineOf(i, Ask.MIXES);
        }
        CHECK.due("letters sent", x.about(Ask.LETTERS), sent);
        CHECK.due("some were sent", sent > 0, true);
    }

    private static void aboutRunners() {
        MeshField x = new MeshField();
        for (int i = 0; i < 3; i++) {
            x.machine();
        }
        CHECK.due("NUMBER 0", x.about(Ask.RUNNERS), 0);
        for (int i = 0; i < 2; i++) {
            x.piece(5);
            x.load(i, 4);
            x.turn(i, 4, 0);
        }
        CHECK.due("not yet", x.about(Ask.RUNNERS), 0);
        x.ticks(1);
        CHECK.due("two run 4", x.about(Ask.RUNNERS), 2);
        x.piece(6);
        x.load(2, 3);
        x.turn(2, 3, 0);
        x.ticks(1);
        CHECK.due("one runs a lesser one", x.about(Ask.RUNNERS), 2);
        x.piece(6);
        x.load(2, 5);
        CHECK.due("none runs the greatest", x.about(Ask.RUNNERS), 0);
        x.turn(2, 5, 0);
        x.ticks(1);
        CHECK.due("one runs the greatest", x.about(Ask.RUNNERS), 1);
        x.cut(2, true);
        CHECK.due("a torn one still runs it", x.about(Ask.RUNNERS), 1);
    }

    private static void aboutAllWhole() {
        MeshField x = new MeshField();
        x.machine();
        x.ticks(4);
        CHECK.due("of NUMBER 0 never", x.about(Ask.ALL_WHOLE), -1);
        x.piece(5);
        x.load(0, 4);
        CHECK.due("not yet", x.about(Ask.ALL_WHOLE), -1);
        x.ticks(5);
        CHECK.due("at the end of tick 4", x.about(Ask.ALL_WHOLE), 4);
        x.machine();
        x.ticks(1);
        CHECK.due("a machine more: the first tick stays", x.about(Ask.ALL_WHOLE), 4);
        x.piece(5);
        x.load(1, 3);
        x.ticks(1);
        CHECK.due("a lesser one elsewhere: the first tick stays", x.about(Ask.ALL_WHOLE), 4);
        x.piece(6);
        x.load(1, 4);
        x.ticks(1);
        CHECK.due("the same NUMBER elsewhere: the first tick stays", x.about(Ask.ALL_WHOLE), 4);
    }

    private static void aboutAllWholeSinceLoad() {
        MeshField x = new MeshField();
        x.machine();
        x.machine();
        x.piece(5);
        x.load(0, 4);
        x.ticks(3);
        CHECK.due("one of two", x.about(Ask.ALL_WHOLE), -1);
        Ask.pieces(x, 5, 6);
        x.load(1, 4);
        x.cut(1, true);
        x.ticks(1);
        CHECK.due("one is torn", x.about(Ask.ALL_WHOLE), -1);
        x.lie(1, 1, 5);
        x.ticks(2);
        CHECK.due("both", x.about(Ask.ALL_WHOLE), 4);
        x.piece(7);
        x.load(0, 5);
        CHECK.due("a greater one", x.about(Ask.ALL_WHOLE), -1);
        x.ticks(2);
        CHECK.due("WHOLE of different NUMBERS", x.about(Ask.ALL_WHOLE), -1);
        x.piece(7);
        x.load(1, 5);
        x.ticks(3);
        CHECK.due("both again", x.about(Ask.ALL_WHOLE), 8);
    }

    private static void askingChangesNothing() {
        MeshField x = new MeshField();
        x.rules(2, 64, 1024, 6);
        x.machine();
        x.seed(6);
        for (int what = -1; what < 120; what++) {
            x.machineOf(0, what);
            x.about(what);
            x.data(0, what);
            x.sum(what);
        }
        x.machine();
        CHECK.due("nothing was drawn", x.machineOf(1, Ask.TELLS_AT), 32 + new Dice(6).below(32));
    }
}
