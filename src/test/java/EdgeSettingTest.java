/** The edges of promises 1 to 6, a sentence at a time: the last value that is taken and the first that is not. */
public final class EdgeSettingTest {
    private static final Check CHECK = new Check();
    private static final int LEAST = Integer.MIN_VALUE;
    private static final int MOST = Integer.MAX_VALUE;

    public static void main(String[] args) {
        newObjectIsEmpty();
        newObjectsShareNothing();
        seedAtItsEnds();
        seedFromNowOn();
        rulesTaken();
        rulesRefusedAtEachEnd();
        rulesRefusedWithMachines();
        rulesWithoutMachinesAtAnyTime();
        machinesUpToTheTwelfth();
        machineBeyondTheTwelfth();
        hearsTaken();
        hearsNot();
        hearsRefused();
        hearsItself();
        piecesUpToTheTwelfth();
        pieceBeyondTheTwelfth();
        CHECK.end();
    }

    private static void newObjectIsEmpty() {
        CHECK.sentence("Promise 1: No machines, tick 0.");
        MeshField x = new MeshField();
        CHECK.due("about(0)", x.about(Ask.MACHINES), 0);
        CHECK.due("about(1)", x.about(Ask.TICK), 0);
        CHECK.due("about(2)", x.about(Ask.LETTERS), 0);
        CHECK.due("about(4)", x.about(Ask.TOLD), 0);
        CHECK.due("piece(1)", x.piece(1), 1);
        CHECK.due("load(0, 1)", x.load(0, 1), -1);
        CHECK.due("turn(0, 1, 1)", x.turn(0, 1, 1), false);
        CHECK.due("lie(0, 1, 1)", x.lie(0, 1, 1), false);
        CHECK.due("cut(0, false)", x.cut(0, false), false);
        CHECK.due("hears(0, 1, 0)", x.hears(0, 1, 0), false);
        CHECK.due("machineOf(0, 0)", x.machineOf(0, Ask.NUMBER), -1);
        CHECK.due("ticks(1)", x.ticks(1), 1);
        CHECK.due("machine()", x.machine(), 0);
    }

    private static void newObjectsShareNothing() {
        CHECK.sentence("Promise 1: No machines, tick 0. (whatever another object was told)");
        MeshField other = new MeshField();
        other.rules(9, 64, 1024, 32);
        other.seed(5);
        other.machine();
        other.piece(1);
        other.ticks(200);
        MeshField x = new MeshField();
        CHECK.due("about(0)", x.about(Ask.MACHINES), 0);
        CHECK.due("about(1)", x.about(Ask.TICK), 0);
        CHECK.due("about(4)", x.about(Ask.TOLD), 0);
        x.machine();
        CHECK.due("SPAN", x.machineOf(0, Ask.SPAN), 4);
        CHECK.due("TELLS-AT by the seed 1", x.machineOf(0, Ask.TELLS_AT), 2 + 16838 % 2);
    }

    /** Reckoned by hand: what (s >>> 16) is after one and after two draws. */
    private static void seedAtItsEnds() {
        CHECK.sentence("Promise 2: The seed from now on. (32 bits)");
        int[] seeds = {1, 0, -1, LEAST, MOST};
        int[] first = {16838, 0, 48697, 32768, 15929};
        int[] second = {38526, 54236, 4409, 21468, 37177};
        for (int i = 0; i < seeds.length; i++) {
            MeshField x = new MeshField();
            x.rules(2, 62, 1024, 6);
            x.seed(seeds[i]);
            x.machine();
            x.machine();
            CHECK.due("seed(" + seeds[i] + "): first", x.machineOf(0, Ask.TELLS_AT), 31 + first[i] % 31);
            CHECK.due("seed(" + seeds[i] + "): second", x.machineOf(1, Ask.TELLS_AT), 31 + second[i] % 31);
        }
    }

    private static void seedFromNowOn() {
        CHECK.sentence("Promise 2: The seed from now on.");
        MeshField x = new MeshField();
        x.rules(2, 62, 1024, 6);
        x.machine();
        x.seed(0);
        CHECK.due("drawn before, at first by 1", x.machineOf(0, Ask.TELLS_AT), 31 + 16838 % 31);
        x.seed(-1);
        x.machine();
        CHECK.due("the seed told last", x.machineOf(1, Ask.TELLS_AT), 31 + 48697 % 31);
        x.seed(-1);
        x.machine();
        CHECK.due("the same seed again", x.machineOf(2, Ask.TELLS_AT), 31 + 48697 % 31);
    }

    private static void rulesTaken() {
        CHECK.sentence("Promise 3: RULES: true. (FEW 1 .. 9, LOW 2 .. 64, HIGH LOW to 1024, WAIT 1 .. 32)");
        int[][] taken = {{1, 4, 64, 6}, {9, 4, 64, 6}, {2, 2, 64, 6}, {2, 64, 64, 6}, {2, 4, 4, 6}, {2, 2, 2, 6},
            {2, 4, 1024, 6}, {2, 64, 1024, 6}, {2, 4, 64, 1}, {2, 4, 64, 32}, {1, 2, 2, 1}, {9, 64, 1024, 32}};
        for (int[] r : taken) {
            MeshField x = new MeshField();
            CHECK.due(nameOf(r), x.rules(r[0], r[1], r[2], r[3]), true);
            x.machine();
            CHECK.due(nameOf(r) + ": SPAN is LOW", x.machineOf(0, Ask.SPAN), r[1]);
            x.ticks(r[1]);
            CHECK.due(nameOf(r) + ": SPAN then", x.machineOf(0, Ask.SPAN), Math.min(2 * r[1], r[2]));
        }
        MeshField x = new MeshField();
        x.rules(2, 8, 8, 6);
        CHECK.due("rules told again", x.rules(2, 9, 9, 6), true);
        x.machine();
        CHECK.due("the last ones count", x.machineOf(0, Ask.SPAN), 9);
    }

    private static void rulesRefusedAtEachEnd() {
        CHECK.sentence("Promise 3: False, changing nothing: others");
        int[][] refused = {{0, 4, 64, 6}, {10, 4, 64, 6}, {-1, 4, 64, 6}, {LEAST, 4, 64, 6}, {MOST, 4, 64, 6},
            {2, 1, 64, 6}, {2, 65, 64, 6}, {2, 65, 1024, 6}, {2, 0, 64, 6}, {2, -4, 64, 6}, {2, LEAST, 64, 6},
            {2, MOST, 64, 6}, {2, MOST, MOST, 6}, {2, 4, 3, 6}, {2, 64, 63, 6}, {2, 2, 1, 6}, {2, 4, 1025, 6},
            {2, 4, 0, 6}, {2, 4, -1, 6}, {2, 4, LEAST, 6}, {2, 4, MOST, 6}, {2, 4, 64, 0}, {2, 4, 64, 33},
            {2, 4, 64, -1}, {2, 4, 64, LEAST}, {2, 4, 64, MOST}, {0, 1, 0, 0}, {10, 65, 1025, 33}};
        for (int[] r : refused) {
            CHECK.due(nameOf(r), new MeshField().rules(r[0], r[1], r[2], r[3]), false);
            Twins.refused(CHECK, nameOf(r), x -> x.rules(3, 7, 90, 8), x -> x.rules(r[0], r[1], r[2], r[3]));
        }
    }

    private static void rulesRefusedWithMachines() {
        CHECK.sentence("Promise 3: False, changing nothing: others, or there are machines.");
        int[][] known = {{2, 4, 64, 6}, {9, 64, 1024, 32}, {1, 2, 2, 1}, {3, 7, 90, 8}};
        for (int[] r : known) {
            MeshField x = new MeshField();
            x.rules(3, 7, 90, 8);
            x.machine();
            CHECK.due(nameOf(r) + " with one machine", x.rules(r[0], r[1], r[2], r[3]), false);
            Twins.refused(CHECK, nameOf(r), Fields::busy, y -> y.rules(r[0], r[1], r[2], r[3]));
        }
    }

    private static void rulesWithoutMachinesAtAnyTime() {
        CHECK.sentence("Promise 3: or there are machines. (there are none, whatever else there is)");
        MeshField x = new MeshField();
        x.ticks(9);
        x.piece(3);
        x.seed(1);
        CHECK.due("rules(2, 5, 5, 6)", x.rules(2, 5, 5, 6), true);
        x.machine();
        CHECK.due("SPAN", x.machineOf(0, Ask.SPAN), 5);
    }

    private static void machinesUpToTheTwelfth() {
        CHECK.sentence("Promise 4: A machine: its number. (MACHINES 0 .. 11)");
        MeshField x = new MeshField();
        for (int i = 0; i < 12; i++) {
            CHECK.due("machine()", x.machine(), i);
            CHECK.due("it is there", x.machineOf(i, Ask.SPAN), 4);
            CHECK.due("the next one isn't", x.machineOf(i + 1, Ask.SPAN), -1);
        }
    }

    private static void machineBeyondTheTwelfth() {
        CHECK.sentence("Promise 4: NONE if there are 12.");
        MeshField x = Fields.withMachines(12);
        CHECK.due("machine()", x.machine(), -1);
        CHECK.due("machine() again", x.machine(), -1);
        CHECK.due("about(0)", x.about(Ask.MACHINES), 12);
        CHECK.due("machineOf(12, 5)", x.machineOf(12, Ask.SPAN), -1);
        Twins.refused(CHECK, "machine()", y -> {
            Fields.busy(y);
            for (int i = 4; i < 12; i++) {
                y.machine();
            }
        }, MeshField::machine);
    }

    private static void hearsTaken() {
        CHECK.sentence("Promise 5: A machine HEARS another one with ODDS (NONE: not): true.");
        int[] odds = {-1, 0, 1, 99, 100};
        for (int o : odds) {
            MeshField x = Fields.withMachines(12);
            CHECK.due("hears(0, 1, " + o + ")", x.hears(0, 1, o), true);
            CHECK.due("hears(1, 0, " + o + ")", x.hears(1, 0, o), true);
            CHECK.due("hears(11, 10, " + o + ")", x.hears(11, 10, o), true);
            CHECK.due("hears(0, 11, " + o + ")", x.hears(0, 11, o), true);
            CHECK.due("hears(0, 11, " + o + ") again", x.hears(0, 11, o), true);
        }
        // By hearing machine and sender, the last ones too: what 11 hears of 10 is no other pair's.
        for (int a = 0; a < 12; a++) {
            for (int b = 0; b < 12; b++) {
                if (a != b) {
                    hearsThisPairAlone(a, b);
                }
            }
        }
    }

    private static void hearsThisPairAlone(int a, int b) {
        MeshField x = new MeshField();
        x.rules(9, 64, 64, 1);
        for (int i = 0; i < 12; i++) {
            x.seed(Dice.seedOf(32, i == b ? 5 : 9));
            x.machine();
        }
        x.hears(a, b, 0);
        x.ticks(38);
        for (int i = 0; i < 12; i++) {
            CHECK.due("hears(" + a + ", " + b + "): HEARD of " + i, x.machineOf(i, Ask.HEARD), i == a ? 1 : 0);
        }
    }

    private static void hearsNot() {
        CHECK.sentence("Promise 5: with ODDS (NONE: not)");
        MeshField x = Pair.steady();
        CHECK.due("hears(1, 0, 100)", x.hears(1, 0, 100), true);
        CHECK.due("hears(1, 0, NONE)", x.hears(1, 0, MeshField.NONE), true);
        x.ticks(1);
        CHECK.due("NONE: HEARD", x.machineOf(1, Ask.HEARD), 0);
        CHECK.due("NONE: lost", x.machineOf(1, Ask.LOST), 0);
        MeshField y = Pair.steady();
        y.hears(1, 0, MeshField.NONE);
        CHECK.due("hears(1, 0, 0) after NONE", y.hears(1, 0, 0), true);
        y.ticks(1);
        CHECK.due("0 after NONE: HEARD", y.machineOf(1, Ask.HEARD), 1);
        MeshField z = Pair.steady();
        z.ticks(1);
        CHECK.due("never told: HEARD", z.machineOf(1, Ask.HEARD), 0);
        CHECK.due("never told: lost", z.machineOf(1, Ask.LOST), 0);
    }

    private static void hearsRefused() {
        CHECK.sentence("Promise 5: False for others");
        int[][] refused = {{0, 1, -2}, {0, 1, 101}, {0, 1, LEAST}, {0, 1, MOST}, {-1, 0, 50}, {0, -1, 50}, {4, 0, 50},
            {0, 4, 50}, {3, 4, 50}, {4, 3, 50}, {4, 5, 50}, {-1, -2, 50}, {12, 0, 50}, {0, 12, 50}, {LEAST, 0, 50},
            {0, LEAST, 50}, {MOST, 0, 50}, {0, MOST, 50}, {-1, 12, -2}};
        for (int[] h : refused) {
            MeshField x = Fields.withMachines(4);
            CHECK.due(hearsOf(h), x.hears(h[0], h[1], h[2]), false);
            Twins.refused(CHECK, hearsOf(h), Fields::busy, y -> y.hears(h[0], h[1], h[2]));
        }
        CHECK.due("hears(2, 3, 0) of four", Fields.withMachines(4).hears(2, 3, 0), true);
        CHECK.due("hears(3, 2, 0) of four", Fields.withMachines(4).hears(3, 2, 0), true);
        CHECK.due("hears(11, 12, 0) of twelve", Fields.withMachines(12).hears(11, 12, 0), false);
        CHECK.due("hears(12, 11, 0) of twelve", Fields.withMachines(12).hears(12, 11, 0), false);
    }

    private static void hearsItself() {
        CHECK.sentence("Promise 5: False for others, or itself.");
        for (int i = 0; i < 12; i++) {
            for (int odds = -1; odds <= 100; odds++) {
                CHECK.due("hears(" + i + ", " + i + ", " + odds + ")", Fields.withMachines(12).hears(i, i, odds), false);
            }
        }
        Twins.refused(CHECK, "hears(1, 1, 0)", Fields::busy, x -> x.hears(1, 1, 0));
    }

    private static void piecesUpToTheTwelfth() {
        CHECK.sentence("Promise 6: A PIECE of the PROGRAM that is told next: how many there are.");
        int[] data = {LEAST, MOST, 0, -1, 1, 0, 0, LEAST, 7, -7, MOST, 12};
        MeshField x = Fields.withMachines(1);
        for (int i = 0; i < 12; i++) {
            CHECK.due("piece(" + data[i] + ")", x.piece(data[i]), i + 1);
            CHECK.due("about(4)", x.about(Ask.TOLD), i + 1);
        }
        CHECK.due("load(0, 1)", x.load(0, 1), 12);
        for (int i = 0; i < 12; i++) {
            CHECK.due("the PIECE " + i, x.data(0, 11 - i), data[i]);
        }
        CHECK.due("none are told then", x.about(Ask.TOLD), 0);
        CHECK.due("piece(1) of the next PROGRAM", x.piece(1), 1);
    }

    private static void pieceBeyondTheTwelfth() {
        CHECK.sentence("Promise 6: NONE if there are 12.");
        MeshField x = Fields.withMachines(1);
        for (int i = 1; i <= 12; i++) {
            x.piece(100 + i);
        }
        CHECK.due("piece(5)", x.piece(5), -1);
        CHECK.due("piece(6)", x.piece(6), -1);
        CHECK.due("about(4)", x.about(Ask.TOLD), 12);
        CHECK.due("load(0, 1)", x.load(0, 1), 12);
        for (int i = 1; i <= 12; i++) {
            CHECK.due("the PIECE told as number " + i, x.data(0, 12 - i), 100 + i);
        }
        Twins.refused(CHECK, "piece(5)", y -> {
            Fields.busy(y);
            Ask.pieces(y, 1, 2, 3, 4, 5, 6, 7, 8, 9, 10);
        }, y -> y.piece(5));
    }

    private static String nameOf(int[] r) {
        return "rules(" + r[0] + ", " + r[1] + ", " + r[2] + ", " + r[3] + ")";
    }

    private static String hearsOf(int[] h) {
        return "hears(" + h[0] + ", " + h[1] + ", " + h[2] + ")";
    }
}
