/**
 * What each call changes and what it leaves: of a field with something of all that can be asked, the answers that
 * a promise names change, every other one stays, and so many DRAWS are made as the promise has.
 */
public final class StayTest {
    private static final Check CHECK = new Check();
    private static final int[] STIRRED = {Ask.SPAN, Ask.BEGAN, Ask.TELLS_AT, Ask.HEARD};

    public static void main(String[] args) {
        seedLeavesAll();
        rulesLeaveAll();
        machineLeavesTheOthers();
        hearsLeavesAll();
        pieceIsToldAlone();
        loadLeavesTheRest();
        turnLeavesTheRest();
        lieOfNothingNew();
        lieThatIsFound();
        lieThatIsNone();
        cutLeavesTheRest();
        cutTornLeavesTheRest();
        cutLeavesWhoHearsWhom();
        ticksLeaveThePiecesTold();
        askingLeavesAll();
        CHECK.end();
    }

    private static int[] places(int[] first, int... more) {
        int[] all = new int[first.length + more.length];
        System.arraycopy(first, 0, all, 0, first.length);
        System.arraycopy(more, 0, all, first.length, more.length);
        return all;
    }

    private static boolean holds(int[] places, int place) {
        for (int p : places) {
            if (p == place) {
                return true;
            }
        }
        return false;
    }

    /** Machine 1's answers at these places change, and those about the field; every other one stays. */
    private static void changes(Twins.Telling call, int... changing) {
        Twins.Telling called = x -> {
            Rich.tell(x);
            call.tell(x);
        };
        for (int machine = 0; machine < 5; machine++) {
            int[] before = Picture.of(Rich::tell, machine);
            int[] after = Picture.of(called, machine);
            for (int place = 0; place < Picture.SIZE; place++) {
                boolean may = (machine == 1 || place >= Picture.ABOUT) && holds(changing, place);
                String name = "machine " + machine + ", place " + place;
                if (may) {
                    CHECK.due(name + " changes", before[place] != after[place], true);
                } else {
                    CHECK.due(name + " stays", after[place], before[place]);
                }
            }
        }
    }

    private static void draws(Twins.Telling call, int count) {
        for (int s = 0; s < 24; s++) {
            MeshField x = Rich.field();
            x.seed(s * 7919);
            call.tell(x);
            Dice dice = new Dice(s * 7919);
            for (int i = 0; i < count; i++) {
                dice.below(2);
            }
            int next = x.machine();
            CHECK.due("DRAWS, seed " + s * 7919, x.machineOf(next, Ask.TELLS_AT), x.about(Ask.TICK) + 3 + dice.below(3));
        }
    }

    private static void seedLeavesAll() {
        CHECK.sentence("Promise 2: The seed from now on. (nothing else)");
        changes(x -> x.seed(77));
    }

    private static void rulesLeaveAll() {
        CHECK.sentence("Promise 3: RULES: true. (nothing else)");
        MeshField x = new MeshField();
        x.ticks(5);
        Ask.pieces(x, 4, 5, 6);
        x.seed(99);
        CHECK.due("rules(2, 62, 62, 6)", x.rules(2, 62, 62, 6), true);
        CHECK.due("PIECES told", x.about(Ask.TOLD), 3);
        CHECK.due("the tick", x.about(Ask.TICK), 5);
        CHECK.due("no machines", x.about(Ask.MACHINES), 0);
        x.machine();
        CHECK.due("the seed", x.machineOf(0, Ask.TELLS_AT), 5 + 31 + new Dice(99).below(31));
        CHECK.due("load(0, 1)", x.load(0, 1), 3);
        CHECK.due("the PIECES", x.sum(0), Ask.sumOf(4, 5, 6));
    }

    private static void machineLeavesTheOthers() {
        CHECK.sentence("Promise 4: A machine: its number. (the others stay)");
        changes(MeshField::machine, Picture.ABOUT + Ask.MACHINES);
        draws(MeshField::machine, 1);
    }

    private static void hearsLeavesAll() {
        CHECK.sentence("Promise 5: A machine HEARS another one with ODDS (NONE: not): true. (nothing else)");
        int[] odds = {-1, 0, 50, 100};
        for (int o : odds) {
            changes(x -> x.hears(1, 2, o));
            draws(x -> x.hears(1, 2, o), 0);
        }
    }

    private static void pieceIsToldAlone() {
        CHECK.sentence("Promise 6: A PIECE of the PROGRAM that is told next: how many there are. (nothing else)");
        changes(x -> x.piece(9), Picture.ABOUT + Ask.TOLD);
        draws(x -> x.piece(9), 0);
    }

    private static void loadLeavesTheRest() {
        CHECK.sentence("Promise 7: The PIECES told (none then) are a PROGRAM that a machine KEEPS, WHOLE; it is STIRRED");
        changes(x -> x.load(1, 8), places(STIRRED, Ask.NUMBER, Ask.PIECES, Ask.WHOLE, Picture.MASKS, Picture.MASKS + 1,
            Picture.DATA, Picture.DATA + 1, Picture.SUM, Picture.ABOUT + Ask.TOLD));
        draws(x -> x.load(1, 8), 1);
        MeshField x = Rich.field();
        CHECK.due("load(1, 8)", x.load(1, 8), 2);
        CHECK.due("RANK", x.machineOf(1, Ask.RANK), 2);
        CHECK.due("WHOLE", x.machineOf(1, Ask.WHOLE), 1);
        CHECK.due("sum(1)", x.sum(1), Ask.sumOf(5, 6));
    }

    private static void turnLeavesTheRest() {
        CHECK.sentence("Promise 8: A TURN is told at a machine: true. (nothing else)");
        changes(x -> x.turn(1, 7, 0), Ask.TURN, Ask.TURN_TICK);
        draws(x -> x.turn(1, 7, 0), 0);
    }

    private static void lieOfNothingNew() {
        CHECK.sentence("Promise 9: A lying MIX comes to a machine as if heard (is its MASK 0 then, nothing comes)");
        changes(x -> x.lie(1, 7, -1), Ask.DATA_AT);
        draws(x -> x.lie(1, 7, -1), 0);
    }

    private static void lieThatIsFound() {
        CHECK.sentence("Promise 9: A lying MIX comes to a machine as if heard (a LIE counted, the BASIS is emptied)");
        changes(x -> x.lie(1, 1, 11), places(STIRRED, Ask.RANK, Ask.LIES, Ask.DATA_AT, Picture.MASKS, Picture.MASKS + 1,
            Picture.DATA, Picture.DATA + 1));
        draws(x -> x.lie(1, 1, 11), 1);
    }

    private static void lieThatIsNone() {
        CHECK.sentence("Promise 9: A lying MIX comes to a machine as if heard (it comes into the BASIS)");
        changes(x -> x.lie(1, 1, 10), places(STIRRED, Ask.RANK, Ask.WHOLE, Ask.DATA_AT, Picture.MASKS + 1,
            Picture.MASKS + 2, Picture.DATA + 1, Picture.DATA + 2));
        draws(x -> x.lie(1, 1, 10), 1);
    }

    private static void cutLeavesTheRest() {
        CHECK.sentence("Promise 10: SPAN is LOW, one BEGINS at the tick at hand, DATA-AT is none, the TURN is forgotten");
        changes(x -> x.cut(1, false), places(STIRRED, Ask.DATA_AT, Ask.TURN, Ask.TURN_TICK));
        draws(x -> x.cut(1, false), 1);
    }

    private static void cutTornLeavesTheRest() {
        CHECK.sentence("Promise 10: the one of its BASIS with the least HEAD is torn and goes; what it RUNS stays");
        changes(x -> x.cut(1, true), places(STIRRED, Ask.DATA_AT, Ask.TURN, Ask.TURN_TICK, Ask.RANK, Picture.MASKS + 1,
            Picture.DATA + 1));
        draws(x -> x.cut(1, true), 1);
    }

    private static void cutLeavesWhoHearsWhom() {
        CHECK.sentence("Promise 10: Power is lost and comes again at a machine (it HEARS and is heard as before)");
        MeshField x = Tellers.calm(9, 1, 63, 40);
        x.hears(0, 1, 0);
        x.hears(1, 0, 0);
        x.seed(Dice.seedOf(32, 3));
        x.cut(0, false);
        CHECK.due("it tells at 35", x.machineOf(0, Ask.TELLS_AT), 35);
        x.ticks(36);
        CHECK.due("it is heard", x.machineOf(1, Ask.HEARD), 1);
        x.ticks(5);
        CHECK.due("it HEARS", x.machineOf(0, Ask.HEARD), 1);
    }

    private static void ticksLeaveThePiecesTold() {
        CHECK.sentence("Promise 11: n TICKS (1 .. 200): the tick at hand then. (the PIECES told stay)");
        MeshField x = Rich.field();
        x.ticks(200);
        CHECK.due("PIECES told", x.about(Ask.TOLD), 2);
        CHECK.due("machines", x.about(Ask.MACHINES), 5);
        MeshField none = new MeshField();
        none.rules(2, 62, 62, 6);
        none.seed(5);
        none.ticks(100);
        none.machine();
        CHECK.due("without machines nothing is DRAWN", none.machineOf(0, Ask.TELLS_AT), 100 + 31 + new Dice(5).below(31));
    }

    private static void askingLeavesAll() {
        CHECK.sentence("Promises 12 to 15: they tell alone");
        Twins.Telling ask = x -> {
            for (int what = -1; what <= 17; what++) {
                x.machineOf(1, what);
                x.about(what);
            }
            for (int i = -1; i <= 12; i++) {
                x.machineOf(1, Ask.MASK + i);
                x.data(1, i);
                x.sum(i);
            }
        };
        changes(ask);
        draws(ask, 0);
    }
}
