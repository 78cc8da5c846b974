/** The edges of the document's terms, part I: machines, odds, rules, draws, programs, mixes, what a machine keeps. */
public final class EdgeTermsTest {
    private static final Check CHECK = new Check();
    private static final int LEAST = Integer.MIN_VALUE;
    private static final int MOST = Integer.MAX_VALUE;

    public static void main(String[] args) {
        machines();
        odds();
        notHeardIsNotDrawn();
        few();
        low();
        high();
        waitRule();
        rulesAtFirst();
        draws();
        sumsWrapAround();
        sumsAreTriedWithWrapAround();
        masksAreNotZero();
        nothingComes();
        comesIntoTheBasis();
        wholeOrLie();
        keepsNone();
        runsNoneAtFirst();
        CHECK.end();
    }

    private static void machines() {
        CHECK.sentence("MACHINES 0 .. 11.");
        int[] there = {0, 11};
        int[] notThere = {-1, 12, LEAST, MOST};
        MeshField x = Fields.withMachines(12);
        for (int m : there) {
            x.piece(4);
            CHECK.due("load(" + m + ", 1)", x.load(m, 1), 1);
            CHECK.due("turn(" + m + ", 1, 1)", x.turn(m, 1, 1), true);
            CHECK.due("lie(" + m + ", 1, 1)", x.lie(m, 1, 1), true);
            CHECK.due("hears(" + m + ", 5, 0)", x.hears(m, 5, 0), true);
            CHECK.due("hears(5, " + m + ", 0)", x.hears(5, m, 0), true);
            CHECK.due("machineOf(" + m + ", 0)", x.machineOf(m, Ask.NUMBER), 1);
            CHECK.due("data(" + m + ", 0)", x.data(m, 0), 4);
            CHECK.due("sum(" + m + ")", x.sum(m), 4);
            CHECK.due("cut(" + m + ", true)", x.cut(m, true), true);
        }
        x.piece(4);
        for (int m : notThere) {
            CHECK.due("load(" + m + ", 1)", x.load(m, 1), -1);
            CHECK.due("turn(" + m + ", 1, 1)", x.turn(m, 1, 1), false);
            CHECK.due("lie(" + m + ", 1, 1)", x.lie(m, 1, 1), false);
            CHECK.due("hears(" + m + ", 5, 0)", x.hears(m, 5, 0), false);
            CHECK.due("hears(5, " + m + ", 0)", x.hears(5, m, 0), false);
            CHECK.due("machineOf(" + m + ", 0)", x.machineOf(m, Ask.NUMBER), -1);
            CHECK.due("data(" + m + ", 0)", x.data(m, 0), 0);
            CHECK.due("sum(" + m + ")", x.sum(m), 0);
            CHECK.due("cut(" + m + ", true)", x.cut(m, true), false);
        }
    }

    private static void odds() {
        CHECK.sentence("ODDS in hundredths (0 .. 100) that a letter is lost; a DRAW below 100, below ODDS: it is lost");
        int[][] cases = {{0, 0, 0}, {0, 99, 0}, {1, 0, 1}, {1, 1, 0}, {50, 49, 1}, {50, 50, 0}, {99, 98, 1}, {99, 99, 0},
            {100, 0, 1}, {100, 99, 1}};
        for (int[] c : cases) {
            MeshField x = Pair.steady();
            x.hears(1, 0, c[0]);
            x.seed(Dice.seedOf(100, c[1]));
            x.ticks(1);
            String name = "ODDS " + c[0] + ", drawn " + c[1];
            CHECK.due(name + ": lost", x.machineOf(1, Ask.LOST), c[2]);
            CHECK.due(name + ": HEARD", x.machineOf(1, Ask.HEARD), 1 - c[2]);
            CHECK.due(name + ": SPOILT", x.machineOf(1, Ask.SPOILT), 0);
        }
    }

    private static void notHeardIsNotDrawn() {
        CHECK.sentence("HEARS of a machine and another one: whether");
        MeshField x = Pair.steady();
        x.machine();
        x.hears(2, 0, 50);
        x.seed(Dice.seedOf(100, 49, 100, 50));
        x.ticks(1);
        CHECK.due("machine 1 hears none: lost", x.machineOf(1, Ask.LOST), 0);
        CHECK.due("machine 1 hears none: HEARD", x.machineOf(1, Ask.HEARD), 0);
        CHECK.due("the first DRAW is machine 2's: lost", x.machineOf(2, Ask.LOST), 1);
    }

    /** At tick 64: machine 0 was to tell at 63, and has heard as many like letters as told, one a tick. */
    private static MeshField heard(int fewRule, int letters) {
        MeshField x = new MeshField();
        x.rules(fewRule, 64, 64, 1);
        x.seed(Dice.seedOf(32, 31));
        x.machine();
        for (int i = 1; i <= letters; i++) {
            x.seed(Dice.seedOf(32, i));
            x.machine();
            x.hears(0, i, 0);
        }
        x.ticks(63);
        CHECK.due("HEARD of " + letters, x.machineOf(0, Ask.HEARD), letters);
        x.ticks(1);
        return x;
    }

    private static void few() {
        CHECK.sentence("FEW (1 .. 9); TELLS-AT is this tick and whose HEARD is below FEW sends a TELL");
        int[] rules = {1, 2, 9};
        for (int f : rules) {
            CHECK.due("FEW " + f, new MeshField().rules(f, 4, 64, 6), true);
            for (int letters = f - 1; letters <= f + 1; letters++) {
                CHECK.due("FEW " + f + ", HEARD " + letters + ": TELLS",
                    heard(f, letters).machineOf(0, Ask.TELLS), letters < f ? 1 : 0);
            }
        }
        CHECK.due("FEW 0", new MeshField().rules(0, 4, 64, 6), false);
        CHECK.due("FEW 10", new MeshField().rules(10, 4, 64, 6), false);
    }

    private static void low() {
        CHECK.sentence("LOW (2 .. 64)");
        CHECK.due("LOW 1", new MeshField().rules(2, 1, 64, 6), false);
        CHECK.due("LOW 65", new MeshField().rules(2, 65, 1024, 6), false);
        int[] rules = {2, 3, 63, 64};
        for (int l : rules) {
            MeshField x = new MeshField();
            CHECK.due("LOW " + l, x.rules(2, l, 1024, 6), true);
            x.machine();
            CHECK.due("LOW " + l + ": SPAN", x.machineOf(0, Ask.SPAN), l);
        }
    }

    private static void high() {
        CHECK.sentence("HIGH (LOW to 1024)");
        int[] lows = {2, 33, 64};
        for (int l : lows) {
            CHECK.due("HIGH one below LOW " + l, new MeshField().rules(2, l, l - 1, 6), false);
            CHECK.due("HIGH 1025, LOW " + l, new MeshField().rules(2, l, 1025, 6), false);
            CHECK.due("HIGH 1024, LOW " + l, new MeshField().rules(2, l, 1024, 6), true);
            MeshField x = new MeshField();
            CHECK.due("HIGH is LOW " + l, x.rules(2, l, l, 6), true);
            x.machine();
            x.ticks(l);
            CHECK.due("HIGH is LOW " + l + ": SPAN stays", x.machineOf(0, Ask.SPAN), l);
            CHECK.due("HIGH is LOW " + l + ": BEGAN", x.machineOf(0, Ask.BEGAN), l);
        }
    }

    private static void waitRule() {
        CHECK.sentence("WAIT (1 .. 32); DATA-AT is this tick and 1 and a DRAW below WAIT");
        CHECK.due("WAIT 0", new MeshField().rules(2, 4, 64, 0), false);
        CHECK.due("WAIT 33", new MeshField().rules(2, 4, 64, 33), false);
        int[][] cases = {{1, 0}, {2, 0}, {2, 1}, {31, 30}, {32, 0}, {32, 31}};
        for (int[] c : cases) {
            MeshField x = new MeshField();
            CHECK.due("WAIT " + c[0], x.rules(9, 2, 2, c[0]), true);
            x.machine();
            x.ticks(1);
            x.machine();
            x.piece(4);
            x.load(1, 1);
            x.hears(1, 0, 0);
            // The loss is drawn first.
            x.seed(Dice.seedOf(100, Dice.ANY, c[0], c[1]));
            x.ticks(1);
            CHECK.due("WAIT " + c[0] + ", drawn " + c[1], x.machineOf(1, Ask.DATA_AT), 1 + 1 + c[1]);
        }
    }

    private static void rulesAtFirst() {
        CHECK.sentence("at first 2, 4, 64, 6");
        for (int letters = 1; letters <= 2; letters++) {
            MeshField x = Fields.withMachines(3);
            x.ticks(3);
            x.seed(Dice.seedOf(4, 3, 4, 0, 4, 1));
            x.ticks(1);
            for (int i = 1; i <= letters; i++) {
                x.hears(0, i, 0);
            }
            int before = x.machineOf(0, Ask.TELLS);
            x.ticks(7);
            CHECK.due("HEARD", x.machineOf(0, Ask.HEARD), letters);
            x.ticks(1);
            CHECK.due("FEW is 2, HEARD " + letters, x.machineOf(0, Ask.TELLS) - before, letters < 2 ? 1 : 0);
        }
        MeshField y = Fields.withMachines(1);
        CHECK.due("LOW is 4", y.machineOf(0, Ask.SPAN), 4);
        y.ticks(4 + 8 + 16 + 32);
        CHECK.due("SPAN 64", y.machineOf(0, Ask.SPAN), 64);
        y.ticks(64);
        CHECK.due("HIGH is 64", y.machineOf(0, Ask.SPAN), 64);
        CHECK.due("it BEGAN anew", y.machineOf(0, Ask.BEGAN), 124);
        for (int drawn = 0; drawn < 6; drawn++) {
            MeshField z = new MeshField();
            z.seed(Dice.seedOf(2, 0, 2, 1));
            z.machine();
            z.machine();
            z.piece(4);
            z.load(1, 1);
            z.hears(1, 0, 0);
            z.ticks(2);
            z.seed(Dice.seedOf(100, Dice.ANY, 6, drawn));
            z.ticks(1);
            CHECK.due("WAIT is 6, drawn " + drawn, z.machineOf(1, Ask.DATA_AT), 2 + 1 + drawn);
        }
    }

    /** Reckoned by hand from the seed 1: 1103527590, then 2524885223, which is below 0 as an int. */
    private static void draws() {
        CHECK.sentence("A DRAW below m: s becomes s * 1103515245 + 12345 (32 bits; at first 1); it is (s >>> 16) % m.");
        MeshField x = new MeshField();
        x.rules(2, 62, 1024, 6);
        x.machine();
        CHECK.due("the first, below 31", x.machineOf(0, Ask.TELLS_AT), 31 + 16838 % 31);
        x.machine();
        CHECK.due("the second, below 31", x.machineOf(1, Ask.TELLS_AT), 31 + 38526 % 31);
        MeshField y = new MeshField();
        y.rules(2, 2, 2, 6);
        y.machine();
        CHECK.due("below 1", y.machineOf(0, Ask.TELLS_AT), 1);
        y.machine();
        CHECK.due("below 1, from an s below 0", y.machineOf(1, Ask.TELLS_AT), 1);
    }

    private static void sumsWrapAround() {
        CHECK.sentence("its SUM: over all PIECES (i from 0) that times i + 1, together (32 bits)");
        CHECK.due("one PIECE, MAX", Fields.loaded(MOST).sum(0), MOST);
        CHECK.due("one PIECE, MIN", Fields.loaded(LEAST).sum(0), LEAST);
        CHECK.due("MAX and 1: just within", Fields.loaded(MOST - 2, 1).sum(0), MOST);
        CHECK.due("MAX and 1: one beyond", Fields.loaded(MOST - 1, 1).sum(0), LEAST);
        CHECK.due("MIN and -1: just within", Fields.loaded(LEAST + 2, -1).sum(0), LEAST);
        CHECK.due("MIN and -1: one beyond", Fields.loaded(LEAST + 1, -1).sum(0), MOST);
        CHECK.due("a product: just within", Fields.loaded(0, (1 << 30) - 1).sum(0), MOST - 1);
        CHECK.due("a product: beyond", Fields.loaded(0, 1 << 30).sum(0), LEAST);
        CHECK.due("three times MAX", Fields.loaded(MOST, MOST).sum(0), 2147483645);
        CHECK.due("the twelfth PIECE alone", Fields.loaded(0, 0, 0, 0, 0, 0, 0, 0, 0, 0, 0, 1).sum(0), 12);
        CHECK.due("all twelve", Fields.loaded(1, 1, 1, 1, 1, 1, 1, 1, 1, 1, 1, 1).sum(0), 78);
    }

    private static void sumsAreTriedWithWrapAround() {
        CHECK.sentence("WHOLE: RANK is the number of PIECES, and their SUM is as told (32 bits)");
        MeshField x = Fields.loaded(5, 7);
        Fields.tearAll(x);
        x.lie(0, 2, 7 ^ LEAST);
        x.lie(0, 1, 5);
        CHECK.due("2 ** 31 twice is 0: WHOLE", x.machineOf(0, Ask.WHOLE), 1);
        CHECK.due("no LIE", x.machineOf(0, Ask.LIES), 0);
        CHECK.due("the other data stay", x.data(0, 0), 7 ^ LEAST);
        MeshField y = Fields.loaded(5, 7);
        Fields.tearAll(y);
        y.lie(0, 2, 7);
        y.lie(0, 1, 5 ^ LEAST);
        CHECK.due("2 ** 31 once isn't: WHOLE", y.machineOf(0, Ask.WHOLE), 0);
        CHECK.due("a LIE", y.machineOf(0, Ask.LIES), 1);
    }

    private static void masksAreNotZero() {
        CHECK.sentence("A MIX: a MASK (of which PIECES it is made: bits, not 0)");
        for (int count = 1; count <= 12; count++) {
            MeshField x = Fields.loaded(new int[count]);
            CHECK.due("MASK 0 of " + count, x.lie(0, 0, 0), false);
            CHECK.due("MASK 1 of " + count, x.lie(0, 1, 0), true);
            CHECK.due("the MASK of all " + count, x.lie(0, (1 << count) - 1, 0), true);
            CHECK.due("one above all " + count, x.lie(0, 1 << count, 0), false);
        }
    }

    private static void nothingComes() {
        CHECK.sentence("is its MASK 0 then, nothing comes");
        MeshField full = Fields.loaded(1, 2, 4, 8, 16, 32, 64, 128, 256, 512, 1024, 2048);
        for (int mask = 1; mask < 4096; mask += 409) {
            full.lie(0, mask, mask + 1);
            CHECK.due("into a full one: RANK", full.machineOf(0, Ask.RANK), 12);
        }
        CHECK.due("into a full one: data", full.data(0, 0), 2048);
        CHECK.due("into a full one: LIES", full.machineOf(0, Ask.LIES), 0);
        MeshField x = Fields.loaded(1, 2, 4);
        x.cut(0, true);
        int[] made = {2, 4, 6};
        for (int mask : made) {
            x.lie(0, mask, 99);
            CHECK.due("made of others, " + mask + ": RANK", x.machineOf(0, Ask.RANK), 2);
            CHECK.due("made of others, " + mask + ": data", x.data(0, 0) + 10 * x.data(0, 1), 4 + 10 * 2);
        }
        MeshField none = Fields.loaded(1, 2, 4);
        Fields.tearAll(none);
        none.lie(0, 4, 4);
        CHECK.due("into an empty one", none.machineOf(0, Ask.RANK), 1);
        none.lie(0, 4, 5);
        CHECK.due("the same again", none.machineOf(0, Ask.RANK), 1);
        CHECK.due("the same again: data", none.data(0, 0), 4);
    }

    private static void comesIntoTheBasis() {
        CHECK.sentence("else its HEAD is taken away from all that have it, and it comes in");
        MeshField x = Fields.loaded(1, 2, 4, 8);
        Fields.tearAll(x);
        x.lie(0, 0b1001, 9);
        x.lie(0, 0b0101, 5);
        x.lie(0, 0b0011, 3);
        int[] masks = {9, 5, 3};
        for (int i = 0; i < 3; i++) {
            CHECK.due("three with PIECE 0: MASK " + i, x.machineOf(0, Ask.MASK + i), masks[i]);
        }
        x.lie(0, 0b1111, 15);
        for (int i = 0; i < 3; i++) {
            CHECK.due("made of others: MASK " + i, x.machineOf(0, Ask.MASK + i), masks[i]);
        }
        x.lie(0, 0b1000, 8);
        for (int i = 0; i < 4; i++) {
            CHECK.due("PIECE 0 is taken away from all: MASK " + i, x.machineOf(0, Ask.MASK + i), 8 >> i);
            CHECK.due("PIECE 0 is taken away from all: data " + i, x.data(0, i), 8 >> i);
        }
        CHECK.due("WHOLE", x.machineOf(0, Ask.WHOLE), 1);
    }

    private static void wholeOrLie() {
        CHECK.sentence("WHOLE: their SUM is as told; is it not, the BASIS is emptied, which is a LIE counted");
        for (int count = 1; count <= 12; count++) {
            for (int off = -1; off <= 1; off++) {
                int[] data = new int[count];
                data[0] = 5;
                MeshField x = Fields.loaded(data);
                x.cut(0, true);
                CHECK.due("one missing of " + count + ": WHOLE", x.machineOf(0, Ask.WHOLE), 0);
                CHECK.due("one missing of " + count + ": LIES", x.machineOf(0, Ask.LIES), 0);
                x.lie(0, 1, 5 + off);
                String name = count + " PIECES, off by " + off;
                CHECK.due(name + ": WHOLE", x.machineOf(0, Ask.WHOLE), off == 0 ? 1 : 0);
                CHECK.due(name + ": LIES", x.machineOf(0, Ask.LIES), off == 0 ? 0 : 1);
                CHECK.due(name + ": RANK", x.machineOf(0, Ask.RANK), off == 0 ? count : 0);
                CHECK.due(name + ": first MASK", x.machineOf(0, Ask.MASK), off == 0 ? 1 << (count - 1) : -1);
                CHECK.due(name + ": NUMBER", x.machineOf(0, Ask.NUMBER), 5);
            }
        }
    }

    private static void keepsNone() {
        CHECK.sentence("A machine KEEPS of one PROGRAM: NUMBER (0: none)");
        MeshField x = Fields.withMachines(1);
        CHECK.due("NUMBER", x.machineOf(0, Ask.NUMBER), 0);
        CHECK.due("PIECES", x.machineOf(0, Ask.PIECES), 0);
        CHECK.due("RANK", x.machineOf(0, Ask.RANK), 0);
        CHECK.due("WHOLE of none", x.machineOf(0, Ask.WHOLE), 0);
        CHECK.due("sum(0)", x.sum(0), 0);
        CHECK.due("no MASK", x.machineOf(0, Ask.MASK), -1);
    }

    private static void runsNoneAtFirst() {
        CHECK.sentence("A machine RUNS a NUMBER (0 at first).");
        MeshField x = Fields.loaded(1);
        CHECK.due("KEPT", x.machineOf(0, Ask.RUNS), 0);
        x.ticks(200);
        CHECK.due("without a TURN", x.machineOf(0, Ask.RUNS), 0);
        x.turn(0, 5, 0);
        x.ticks(1);
        CHECK.due("with one", x.machineOf(0, Ask.RUNS), 5);
    }
}
