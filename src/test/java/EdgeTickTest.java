/** The edges of promise 11 and of the terms, part II: ticks, intervals, letters, turns. */
public final class EdgeTickTest {
    private static final Check CHECK = new Check();
    private static final int LEAST = Integer.MIN_VALUE;
    private static final int MOST = Integer.MAX_VALUE;

    public static void main(String[] args) {
        ticksTaken();
        ticksRefused();
        ticksBeyondTheLast();
        beginsAtTheTickAtHand();
        tellsAtEitherEnd();
        spanIsOver();
        spanIsDoubled();
        mixIfRankIsAboveNone();
        mixOfThoseDrawn();
        mixOfTheFirst();
        noneOneOrMoreSenders();
        ownNumberAndRank();
        dataAtIsSetOnce();
        mixOfNumbers();
        mixOfOtherPiecesOrSum();
        stirredAboveLow();
        turnOfGreaterNumber();
        runsFromTheTurn();
        runsWholeAlone();
        runsAtTheLastTick();
        CHECK.end();
    }

    private static void ticksTaken() {
        CHECK.sentence("Promise 11: n TICKS (1 .. 200): the tick at hand then.");
        int[] taken = {1, 2, 199, 200};
        for (int n : taken) {
            MeshField x = new MeshField();
            x.machine();
            CHECK.due("ticks(" + n + ")", x.ticks(n), n);
            CHECK.due("ticks(" + n + "): about(1)", x.about(Ask.TICK), n);
            CHECK.due("ticks(1) then", x.ticks(1), n + 1);
        }
        MeshField one = new MeshField();
        MeshField many = new MeshField();
        Fields.busy(one);
        Fields.busy(many);
        one.ticks(200);
        for (int i = 0; i < 200; i++) {
            many.ticks(1);
        }
        for (int i = 0; i < 4; i++) {
            for (int what = 0; what < 17; what++) {
                CHECK.due("200 at once or one by one: machineOf(" + i + ", " + what + ")",
                    one.machineOf(i, what), many.machineOf(i, what));
            }
        }
    }

    private static void ticksRefused() {
        CHECK.sentence("Promise 11: NONE for others");
        int[] refused = {0, -1, 201, 202, LEAST, MOST};
        for (int n : refused) {
            MeshField x = new MeshField();
            CHECK.due("ticks(" + n + ")", x.ticks(n), -1);
            CHECK.due("ticks(" + n + "): about(1)", x.about(Ask.TICK), 0);
            Twins.refused(CHECK, "ticks(" + n + ")", Fields::busy, y -> y.ticks(n));
        }
    }

    /** Nearly all of the 512 calls go into coming there. */
    private static void comeTo99800(MeshField x) {
        for (int i = 0; i < 499; i++) {
            x.ticks(200);
        }
    }

    private static void ticksBeyondTheLast() {
        CHECK.sentence("Promise 11: NONE for others, or beyond 100000.");
        MeshField x = new MeshField();
        comeTo99800(x);
        CHECK.due("200 to 100000", x.ticks(200), 100000);
        CHECK.due("one beyond", x.ticks(1), -1);
        CHECK.due("200 beyond", x.ticks(200), -1);
        CHECK.due("MAX beyond", x.ticks(MOST), -1);
        CHECK.due("it stays", x.about(Ask.TICK), 100000);
        MeshField y = new MeshField();
        comeTo99800(y);
        CHECK.due("99801", y.ticks(1), 99801);
        CHECK.due("200 to 100001", y.ticks(200), -1);
        CHECK.due("none of them was gone", y.about(Ask.TICK), 99801);
        CHECK.due("198 to 99999", y.ticks(198), 99999);
        CHECK.due("two to 100001", y.ticks(2), -1);
        CHECK.due("one to 100000", y.ticks(1), 100000);
        CHECK.due("a machine can still come", y.machine(), 0);
        CHECK.due("it BEGAN", y.machineOf(0, Ask.BEGAN), 100000);
        CHECK.due("one beyond", y.ticks(1), -1);
        CHECK.due("no letter", y.about(Ask.LETTERS), 0);
    }

    private static void beginsAtTheTickAtHand() {
        CHECK.sentence("(So as a machine comes, at the tick at hand.)");
        int[] ticks = {0, 1, 200};
        for (int t : ticks) {
            MeshField x = new MeshField();
            x.ticks(t);
            x.seed(Dice.seedOf(2, 1));
            x.machine();
            CHECK.due("SPAN at " + t, x.machineOf(0, Ask.SPAN), 4);
            CHECK.due("BEGAN at " + t, x.machineOf(0, Ask.BEGAN), t);
            CHECK.due("TELLS-AT at " + t, x.machineOf(0, Ask.TELLS_AT), t + 2 + 1);
            CHECK.due("HEARD at " + t, x.machineOf(0, Ask.HEARD), 0);
            CHECK.due("DATA-AT at " + t, x.machineOf(0, Ask.DATA_AT), -1);
        }
    }

    private static void tellsAtEitherEnd() {
        CHECK.sentence("TELLS-AT t + SPAN / 2 + a DRAW below SPAN - SPAN / 2");
        int[] spans = {2, 3, 4, 5, 63, 64};
        for (int span : spans) {
            int last = span - span / 2 - 1;
            int[] drawn = {0, last};
            for (int d : drawn) {
                MeshField x = new MeshField();
                x.rules(2, span, 1024, 6);
                x.seed(Dice.seedOf(span - span / 2, d));
                x.machine();
                int at = span / 2 + d;
                String name = "SPAN " + span + ", drawn " + d;
                CHECK.due(name + ": TELLS-AT", x.machineOf(0, Ask.TELLS_AT), at);
                x.ticks(at);
                CHECK.due(name + ": TELLS ahead of it", x.machineOf(0, Ask.TELLS), 0);
                x.ticks(1);
                CHECK.due(name + ": TELLS", x.machineOf(0, Ask.TELLS), 1);
                CHECK.due(name + ": BEGAN", x.machineOf(0, Ask.BEGAN), at == span - 1 ? span : 0);
            }
        }
    }

    private static void spanIsOver() {
        CHECK.sentence("if SPAN ticks are over at the end of this tick since it BEGAN");
        int[] spans = {2, 3, 64};
        for (int span : spans) {
            MeshField x = new MeshField();
            x.rules(2, span, 1024, 6);
            x.ticks(5);
            x.machine();
            x.ticks(span - 1);
            CHECK.due("LOW " + span + ", one tick ahead: SPAN", x.machineOf(0, Ask.SPAN), span);
            CHECK.due("LOW " + span + ", one tick ahead: BEGAN", x.machineOf(0, Ask.BEGAN), 5);
            x.ticks(1);
            CHECK.due("LOW " + span + ", over: SPAN", x.machineOf(0, Ask.SPAN), 2 * span);
            CHECK.due("LOW " + span + ", over: BEGAN", x.machineOf(0, Ask.BEGAN), 5 + span);
            int tellsAt = x.machineOf(0, Ask.TELLS_AT);
            CHECK.due("LOW " + span + ", over: TELLS-AT", tellsAt >= 5 + 2 * span && tellsAt < 5 + 3 * span, true);
        }
    }

    private static void spanIsDoubled() {
        CHECK.sentence("SPAN is doubled (HIGH at most) and one BEGINS at the next tick");
        int[][] cases = {{8, 8, 8, 8}, {8, 9, 9, 9}, {8, 15, 15, 15}, {8, 16, 16, 16}, {8, 17, 16, 17}, {8, 31, 16, 31},
            {8, 32, 16, 32}, {8, 33, 16, 32}};
        for (int[] c : cases) {
            MeshField x = new MeshField();
            x.rules(2, c[0], c[1], 6);
            x.machine();
            x.ticks(c[0]);
            CHECK.due("HIGH " + c[1] + ": the second SPAN", x.machineOf(0, Ask.SPAN), c[2]);
            x.ticks(c[2]);
            CHECK.due("HIGH " + c[1] + ": the third SPAN", x.machineOf(0, Ask.SPAN), c[3]);
            CHECK.due("HIGH " + c[1] + ": BEGAN", x.machineOf(0, Ask.BEGAN), c[0] + c[2]);
        }
        int[] highs = {1023, 1024};
        for (int high : highs) {
            MeshField x = new MeshField();
            x.rules(2, 64, high, 6);
            x.machine();
            int[] due = {64, 128, 256, 512, high, high};
            int began = 0;
            for (int span : due) {
                CHECK.due("HIGH " + high + ": SPAN at " + began, x.machineOf(0, Ask.SPAN), span);
                CHECK.due("HIGH " + high + ": BEGAN at " + began, x.machineOf(0, Ask.BEGAN), began);
                for (int i = 0; i < span; i += 100) {
                    x.ticks(Math.min(100, span - i));
                }
                began += span;
            }
        }
    }

    /** At tick 3: machine 0 has DATA-AT 3 and TELLS-AT 3; so many PIECES of 16, 32, .., so many torn, some MIXES then. */
    private static MeshField aboutToMix(int pieces, int torn, int... mixes) {
        MeshField x = new MeshField();
        x.rules(9, 2, 2, 1);
        x.machine();
        for (int i = 0; i < pieces; i++) {
            x.piece(16 << i);
        }
        x.load(0, 5);
        for (int i = 0; i < torn; i++) {
            x.cut(0, true);
        }
        for (int mask : mixes) {
            x.lie(0, mask, 16 * mask);
        }
        x.ticks(1);
        x.machine();
        x.hears(0, 1, 0);
        x.ticks(2);
        x.hears(1, 0, 0);
        CHECK.due("about to mix: DATA-AT", x.machineOf(0, Ask.DATA_AT), 3);
        CHECK.due("about to mix: TELLS-AT", x.machineOf(0, Ask.TELLS_AT), 3);
        return x;
    }

    private static void mixIfRankIsAboveNone() {
        CHECK.sentence("a machine whose DATA-AT is this tick has none then, and sends a MIX if its RANK is above 0");
        for (int rank = 0; rank <= 2; rank++) {
            MeshField x = aboutToMix(2, 2 - rank);
            int tells = x.machineOf(0, Ask.TELLS);
            x.ticks(1);
            CHECK.due("RANK " + rank + ": MIXES", x.machineOf(0, Ask.MIXES), rank > 0 ? 1 : 0);
            CHECK.due("RANK " + rank + ": TELLS", x.machineOf(0, Ask.TELLS), tells + (rank > 0 ? 0 : 1));
            CHECK.due("RANK " + rank + ": DATA-AT", x.machineOf(0, Ask.DATA_AT), -1);
            CHECK.due("RANK " + rank + ": NUMBER of the hearer", x.machineOf(1, Ask.NUMBER), rank > 0 ? 5 : 0);
        }
    }

    /** What machine 1, which keeps none, has of the MIX that was drawn so. */
    private static int mixDrawn(int rank, int drawn) {
        MeshField x = aboutToMix(rank, 0);
        x.seed(Dice.seedOf(4096, drawn));
        x.ticks(1);
        int mask = x.machineOf(1, Ask.MASK);
        CHECK.due("RANK " + rank + ", drawn " + drawn + ": data", x.data(1, 0), 16 * mask);
        return mask;
    }

    private static void mixOfThoseDrawn() {
        CHECK.sentence("DRAWN below 4096: of those that it has (by falling HEADS, the i-th if bit i is set) put together");
        for (int rank = 1; rank <= 12; rank++) {
            CHECK.due("the first of " + rank, mixDrawn(rank, 1), 1 << (rank - 1));
            CHECK.due("the last of " + rank, mixDrawn(rank, 1 << (rank - 1)), 1);
            CHECK.due("all of " + rank, mixDrawn(rank, 4095), (1 << rank) - 1);
        }
        CHECK.due("the first and the last of 12", mixDrawn(12, 2049), 2049);
        CHECK.due("the second and third of 3", mixDrawn(3, 6), 3);
        MeshField shared = aboutToMix(3, 3, 0b101, 0b011);
        shared.seed(Dice.seedOf(4096, 3));
        shared.ticks(1);
        CHECK.due("two that share a PIECE: MASK", shared.machineOf(1, Ask.MASK), 0b110);
        CHECK.due("two that share a PIECE: data", shared.data(1, 0), 16 * 0b110);
        MeshField again = aboutToMix(3, 0);
        again.hears(1, 0, MeshField.NONE);
        again.seed(Dice.seedOf(4096, 1));
        again.ticks(2);
        again.hears(1, 0, 0);
        again.seed(Dice.seedOf(4096, 2));
        again.ticks(1);
        CHECK.due("a MIX after another: MIXES", again.machineOf(0, Ask.MIXES), 2);
        CHECK.due("a MIX after another: MASK", again.machineOf(1, Ask.MASK), 0b010);
        CHECK.due("a MIX after another: data", again.data(1, 0), 16 * 0b010);
    }

    private static void mixOfTheFirst() {
        CHECK.sentence("if none is set, the first one");
        for (int rank = 1; rank <= 12; rank++) {
            CHECK.due("0 of " + rank, mixDrawn(rank, 0), 1 << (rank - 1));
            if (rank < 12) {
                CHECK.due("one beyond the last of " + rank, mixDrawn(rank, 1 << rank), 1 << (rank - 1));
                CHECK.due("all beyond the last of " + rank, mixDrawn(rank, 4096 - (1 << rank)), 1 << (rank - 1));
            }
        }
    }

    private static void noneOneOrMoreSenders() {
        CHECK.sentence("if they are two or more, it hears none (one SPOILT more); if one: a DRAW below 100");
        int[] counts = {0, 1, 2, 3, 10};
        for (int heard : counts) {
            MeshField x = new MeshField();
            x.rules(9, 2, 2, 1);
            for (int i = 0; i < 10; i++) {
                x.machine();
            }
            x.ticks(1);
            x.machine();
            x.machine();
            for (int i = 0; i < heard; i++) {
                x.hears(10, i, 50);
            }
            x.hears(11, 9, 50);
            // Only one letter alone is drawn for, so machine 11's is the first draw unless machine 10 hears one.
            x.seed(Dice.seedOf(100, 50, 100, 49));
            x.ticks(1);
            CHECK.due(heard + " at once: HEARD", x.machineOf(10, Ask.HEARD), heard == 1 ? 1 : 0);
            CHECK.due(heard + " at once: SPOILT", x.machineOf(10, Ask.SPOILT), heard >= 2 ? 1 : 0);
            CHECK.due(heard + " at once: lost", x.machineOf(10, Ask.LOST), 0);
            CHECK.due(heard + " at once: machine 11 lost", x.machineOf(11, Ask.LOST), heard == 1 ? 1 : 0);
        }
    }

    /** At tick 4: machine 0 keeps 5 with RANK 2 of 3 and SPAN 4, and has heard a TELL of machine 1 at tick 3. */
    private static MeshField told(int number, int rank) {
        MeshField x = new MeshField();
        x.rules(9, 2, 4, 1);
        x.machine();
        Ask.pieces(x, 1, 2, 4);
        x.load(0, 5);
        x.cut(0, true);
        x.ticks(2);
        x.machine();
        if (number > 0) {
            Ask.pieces(x, 1, 2, 4);
            x.load(1, number);
        }
        for (int i = rank; i < 3; i++) {
            x.cut(1, true);
        }
        x.hears(0, 1, 0);
        x.ticks(1);
        CHECK.due("told: SPAN ahead", x.machineOf(0, Ask.SPAN), 4);
        x.ticks(1);
        return x;
    }

    private static void ownNumberAndRank() {
        CHECK.sentence("of its own NUMBER and RANK: HEARD one more. Else: it is STIRRED; and if NUMBER is below its own, "
            + "or like it and RANK below its own, and DATA-AT is none");
        for (int number = 4; number <= 6; number++) {
            for (int rank = 1; rank <= 3; rank++) {
                tellIsAsDue(number, rank);
            }
        }
        tellIsAsDue(0, 0);
        tellIsAsDue(9999, 3);
    }

    private static void tellIsAsDue(int number, int rank) {
        MeshField x = told(number, rank);
        boolean like = number == 5 && rank == 2;
        boolean less = number < 5 || number == 5 && rank < 2;
        String name = "NUMBER " + number + ", RANK " + rank;
        CHECK.due(name + ": HEARD", x.machineOf(0, Ask.HEARD), like ? 1 : 0);
        CHECK.due(name + ": SPAN", x.machineOf(0, Ask.SPAN), like ? 4 : 2);
        CHECK.due(name + ": BEGAN", x.machineOf(0, Ask.BEGAN), like ? 2 : 4);
        CHECK.due(name + ": DATA-AT", x.machineOf(0, Ask.DATA_AT), less ? 4 : -1);
        CHECK.due(name + ": its own NUMBER", x.machineOf(0, Ask.NUMBER), 5);
        CHECK.due(name + ": its own RANK", x.machineOf(0, Ask.RANK), 2);
    }

    private static void dataAtIsSetOnce() {
        CHECK.sentence("and DATA-AT is none: DATA-AT is this tick and 1 and a DRAW below WAIT");
        MeshField x = Pair.steady(9, 32);
        x.piece(4);
        x.load(1, 5);
        x.hears(1, 0, 0);
        x.seed(Dice.seedOf(100, Dice.ANY, 32, 31));
        x.ticks(1);
        CHECK.due("at tick 1", x.machineOf(1, Ask.DATA_AT), 1 + 1 + 31);
        x.ticks(30);
        CHECK.due("it stays, though fifteen more have told", x.machineOf(1, Ask.DATA_AT), 33);
        x.ticks(1);
        CHECK.due("it is the tick at hand", x.machineOf(1, Ask.DATA_AT), x.about(Ask.TICK));
        CHECK.due("no MIX ahead of it", x.machineOf(1, Ask.MIXES), 0);
        x.ticks(1);
        CHECK.due("it has none then", x.machineOf(1, Ask.DATA_AT), -1);
        CHECK.due("the MIX", x.machineOf(1, Ask.MIXES), 1);
        x.ticks(2);
        int again = x.machineOf(1, Ask.DATA_AT);
        CHECK.due("it is set again by the next one", again >= 36 && again <= 67, true);
    }

    /** At tick 5: machine 1 keeps what is told and has SPAN 4 until it hears a MIX of machine 0, of 5, at tick 4. */
    private static MeshField mixed(int number, int[] pieces, boolean torn) {
        MeshField x = new MeshField();
        x.rules(9, 2, 4, 1);
        x.machine();
        x.machine();
        Ask.pieces(x, 70, 8);
        x.load(0, 5);
        if (number > 0) {
            Ask.pieces(x, pieces);
            x.load(1, number);
        }
        if (torn) {
            x.cut(1, true);
        }
        x.ticks(1);
        // Machine 1 is to tell at 5, so that it hears at 4.
        x.seed(Dice.seedOf(2, Dice.ANY, 2, 1));
        x.ticks(1);
        x.machine();
        x.hears(0, 2, 0);
        x.ticks(2);
        x.hears(1, 0, 0);
        CHECK.due("mixed: SPAN ahead", x.machineOf(1, Ask.SPAN), 4);
        CHECK.due("mixed: DATA-AT", x.machineOf(0, Ask.DATA_AT), 4);
        x.seed(Dice.seedOf(4096, 2));
        x.ticks(1);
        CHECK.due("mixed: MIXES", x.machineOf(0, Ask.MIXES), 1);
        return x;
    }

    private static void mixOfNumbers() {
        CHECK.sentence("of a NUMBER above its own: it KEEPS that PROGRAM from now on, without BASIS; Of a NUMBER below: "
            + "it is STIRRED, no more");
        int[] below = {0, 1, 4};
        for (int number : below) {
            MeshField x = mixed(number, new int[] {1, 2, 3}, false);
            CHECK.due("of " + number + ": NUMBER", x.machineOf(1, Ask.NUMBER), 5);
            CHECK.due("of " + number + ": PIECES", x.machineOf(1, Ask.PIECES), 2);
            CHECK.due("of " + number + ": RANK", x.machineOf(1, Ask.RANK), 1);
            CHECK.due("of " + number + ": MASK", x.machineOf(1, Ask.MASK), 1);
            CHECK.due("of " + number + ": sum", x.sum(1), 86);
            CHECK.due("of " + number + ": SPAN", x.machineOf(1, Ask.SPAN), 2);
            CHECK.due("of " + number + ": BEGAN", x.machineOf(1, Ask.BEGAN), 5);
        }
        int[] above = {6, 9999};
        for (int number : above) {
            MeshField x = mixed(number, new int[] {70, 8}, true);
            CHECK.due("of " + number + ": NUMBER", x.machineOf(1, Ask.NUMBER), number);
            CHECK.due("of " + number + ": RANK", x.machineOf(1, Ask.RANK), 1);
            CHECK.due("of " + number + ": SPAN", x.machineOf(1, Ask.SPAN), 2);
            CHECK.due("of " + number + ": BEGAN", x.machineOf(1, Ask.BEGAN), 5);
        }
    }

    private static void mixOfOtherPiecesOrSum() {
        CHECK.sentence("of its own: if it comes into the BASIS it is STIRRED; of its own but of other PIECES (how many) "
            + "or SUM: it is STIRRED, no more");
        MeshField whole = mixed(5, new int[] {70, 8}, false);
        CHECK.due("of its own, it has it: SPAN", whole.machineOf(1, Ask.SPAN), 4);
        CHECK.due("of its own, it has it: BEGAN", whole.machineOf(1, Ask.BEGAN), 2);
        MeshField torn = mixed(5, new int[] {70, 8}, true);
        CHECK.due("of its own, it comes: RANK", torn.machineOf(1, Ask.RANK), 2);
        CHECK.due("of its own, it comes: SPAN", torn.machineOf(1, Ask.SPAN), 2);
        int[][] others = {{71, 8}, {69, 8}, {70, 8, 0}, {86}};
        for (int[] other : others) {
            MeshField x = mixed(5, other, true);
            String name = other.length + " PIECES, the first of " + other[0];
            CHECK.due(name + ": RANK", x.machineOf(1, Ask.RANK), other.length - 1);
            CHECK.due(name + ": PIECES", x.machineOf(1, Ask.PIECES), other.length);
            CHECK.due(name + ": sum", x.sum(1), Ask.sumOf(other));
            CHECK.due(name + ": LIES", x.machineOf(1, Ask.LIES), 0);
            CHECK.due(name + ": SPAN", x.machineOf(1, Ask.SPAN), 2);
        }
        MeshField likeSum = mixed(5, new int[] {68, 9}, true);
        CHECK.due("other data of like SUM: RANK", likeSum.machineOf(1, Ask.RANK), 0);
        CHECK.due("other data of like SUM: LIES", likeSum.machineOf(1, Ask.LIES), 1);
    }

    private static void stirredAboveLow() {
        CHECK.sentence("STIRRED: if its SPAN is above LOW, it is LOW, and one BEGINS at the next tick; else nothing.");
        int[] highs = {8, 9};
        for (int high : highs) {
            MeshField x = new MeshField();
            x.rules(2, 8, high, 6);
            x.machine();
            x.ticks(10);
            int tellsAt = x.machineOf(0, Ask.TELLS_AT);
            CHECK.due("HIGH " + high + ": SPAN", x.machineOf(0, Ask.SPAN), high);
            x.piece(1);
            // Drawn below 4 it is 3 at once, and below 4 it is 1 the next time.
            x.seed(Dice.seedOf(4, 3, 4, 1));
            x.load(0, 1);
            CHECK.due("HIGH " + high + ": SPAN then", x.machineOf(0, Ask.SPAN), 8);
            CHECK.due("HIGH " + high + ": BEGAN", x.machineOf(0, Ask.BEGAN), high > 8 ? 11 : 8);
            CHECK.due("HIGH " + high + ": TELLS-AT", x.machineOf(0, Ask.TELLS_AT), high > 8 ? 11 + 4 + 3 : tellsAt);
            x.machine();
            CHECK.due("HIGH " + high + ": the next DRAW", x.machineOf(1, Ask.TELLS_AT), 10 + 4 + (high > 8 ? 1 : 3));
        }
    }

    private static void turnOfGreaterNumber() {
        CHECK.sentence("TURN: who hears one of a greater NUMBER takes it.");
        int[] sent = {0, 1, 6, 7, 8, 9999};
        for (int number : sent) {
            MeshField x = Pair.steady();
            x.hears(1, 0, 0);
            x.turn(1, 7, 300);
            if (number > 0) {
                x.turn(0, number, 200);
            }
            x.ticks(1);
            CHECK.due("7 hears " + number + ": NUMBER", x.machineOf(1, Ask.TURN), Math.max(7, number));
            CHECK.due("7 hears " + number + ": tick", x.machineOf(1, Ask.TURN_TICK), number > 7 ? 200 : 300);
            MeshField none = Pair.steady();
            none.hears(1, 0, 0);
            if (number > 0) {
                none.turn(0, number, 200);
            }
            none.ticks(1);
            CHECK.due("none hears " + number + ": NUMBER", none.machineOf(1, Ask.TURN), number);
            CHECK.due("none hears " + number + ": tick", none.machineOf(1, Ask.TURN_TICK), number > 0 ? 200 : 0);
        }
    }

    private static void runsFromTheTurn() {
        CHECK.sentence("RUNS it from the end of the tick ahead of the TURN's tick on, or later ones.");
        for (int at = 0; at <= 12; at++) {
            MeshField x = new MeshField();
            x.machine();
            x.ticks(5);
            x.piece(4);
            x.load(0, 3);
            x.turn(0, 3, at);
            CHECK.due("a TURN at " + at + ", told at 5", x.machineOf(0, Ask.RUNS), 0);
            for (int tick = 6; tick <= 13; tick++) {
                x.ticks(1);
                CHECK.due("a TURN at " + at + ", at " + tick, x.machineOf(0, Ask.RUNS), tick >= at ? 3 : 0);
            }
        }
    }

    private static void runsWholeAlone() {
        CHECK.sentence("A machine that is WHOLE of the TURN's NUMBER RUNS it");
        for (int number = 4; number <= 6; number++) {
            MeshField x = new MeshField();
            x.machine();
            Ask.pieces(x, 1, 2);
            x.load(0, 5);
            x.turn(0, number, 0);
            x.ticks(3);
            CHECK.due("WHOLE of 5, a TURN of " + number, x.machineOf(0, Ask.RUNS), number == 5 ? 5 : 0);
        }
        MeshField y = new MeshField();
        y.machine();
        Ask.pieces(y, 1, 2);
        y.load(0, 5);
        y.cut(0, true);
        y.turn(0, 5, 0);
        y.ticks(3);
        CHECK.due("one PIECE is missing", y.machineOf(0, Ask.RUNS), 0);
        y.lie(0, 1, 1);
        y.ticks(1);
        CHECK.due("it has come", y.machineOf(0, Ask.RUNS), 5);
    }

    private static void runsAtTheLastTick() {
        CHECK.sentence("RUNS it from the end of the tick ahead of the TURN's tick on (tick 0 .. 1000000; 100000 the last)");
        int[] turns = {99999, 100000, 100001, 1000000};
        for (int at : turns) {
            MeshField x = new MeshField();
            x.machine();
            x.piece(4);
            x.load(0, 3);
            x.turn(0, 3, at);
            comeTo99800(x);
            x.ticks(198);
            CHECK.due("a TURN at " + at + ", at 99998", x.machineOf(0, Ask.RUNS), 0);
            x.ticks(1);
            CHECK.due("a TURN at " + at + ", at 99999", x.machineOf(0, Ask.RUNS), at <= 99999 ? 3 : 0);
            x.ticks(1);
            CHECK.due("a TURN at " + at + ", at 100000", x.machineOf(0, Ask.RUNS), at <= 100000 ? 3 : 0);
        }
    }
}
