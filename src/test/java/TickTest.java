/** Promise 11, ticks, and what the terms say of a tick: senders, hearing, tells, mixes, turns, intervals. */
public final class TickTest {
    private static final Check CHECK = new Check();

    public static void main(String[] args) {
        ticksAtTheirEdges();
        ticksUpToTheLast();
        tellsAtItsTick();
        fewAreEnough();
        fewAtFirst();
        likeTellsAreCounted();
        sendersHearNothing();
        twoLettersSpoil();
        lettersAreLostByOdds();
        lesserTellAsksForData();
        waitAtFirst();
        tellOfLesserRankAsksForData();
        greaterTellAsksForNothing();
        dataAtStaysOnceSet();
        stirredAheadOfData();
        mixGoesAheadOfTell();
        noMixWithoutRank();
        mixIsDrawn();
        mixOfOneOrNoneSet();
        mixOfGreaterNumberIsKept();
        mixOfLesserNumberIsNotTaken();
        mixOfAnotherProgramIsNotTaken();
        mixEndsDataAt();
        mixStirsOnlyIfItComesIn();
        turnIsCarried();
        turnIsCarriedByMixes();
        runsAtTheTurn();
        runsLater();
        spansAreDrawnByMachines();
        CHECK.end();
    }

    private static void ticksAtTheirEdges() {
        MeshField x = new MeshField();
        x.machine();
        int[] bad = {0, -1, 201, 1000, Integer.MIN_VALUE, Integer.MAX_VALUE};
        for (int n : bad) {
            CHECK.due("ticks(" + n + ")", x.ticks(n), -1);
            CHECK.due("the tick stays", x.about(Ask.TICK), 0);
        }
        CHECK.due("ticks(1)", x.ticks(1), 1);
        CHECK.due("ticks(200)", x.ticks(200), 201);
        CHECK.due("about(1)", x.about(Ask.TICK), 201);
    }

    private static void ticksUpToTheLast() {
        MeshField x = new MeshField();
        x.machine();
        for (int i = 1; i < 500; i++) {
            CHECK.due("ticks(200)", x.ticks(200), i * 200);
        }
        CHECK.due("ticks(199)", x.ticks(199), 99999);
        CHECK.due("beyond 100000", x.ticks(2), -1);
        CHECK.due("about(1)", x.about(Ask.TICK), 99999);
        CHECK.due("to 100000", x.ticks(1), 100000);
        CHECK.due("none after", x.ticks(1), -1);
    }

    private static void tellsAtItsTick() {
        MeshField x = new MeshField();
        x.rules(2, 40, 1024, 6);
        x.machine();
        int tellsAt = x.machineOf(0, Ask.TELLS_AT);
        x.ticks(tellsAt);
        CHECK.due("ahead of TELLS-AT", x.machineOf(0, Ask.TELLS), 0);
        x.ticks(1);
        CHECK.due("at TELLS-AT", x.machineOf(0, Ask.TELLS), 1);
        CHECK.due("letters", x.about(Ask.LETTERS), 1);
        x.ticks(40 - tellsAt - 1);
        CHECK.due("once an interval", x.machineOf(0, Ask.TELLS), 1);
    }

    private static void fewAreEnough() {
        for (int few = 1; few <= 2; few++) {
            MeshField x = Pair.steady(few, 1);
            x.hears(1, 0, 0);
            x.ticks(1);
            CHECK.due("FEW " + few + ": HEARD", x.machineOf(1, Ask.HEARD), 1);
            x.ticks(1);
            CHECK.due("FEW " + few + ": TELLS", x.machineOf(1, Ask.TELLS), few - 1);
            CHECK.due("a new interval has HEARD none", x.machineOf(1, Ask.HEARD), 0);
        }
    }

    private static void fewAtFirst() {
        int seen = 0;
        for (int s = 0; s < 300; s++) {
            for (int heard = 1; heard <= 2; heard++) {
                MeshField x = new MeshField();
                x.seed(s * 7919);
                for (int i = 0; i < 3; i++) {
                    x.machine();
                }
                x.ticks(4);
                int first = x.machineOf(0, Ask.TELLS_AT);
                int second = x.machineOf(1, Ask.TELLS_AT);
                int last = x.machineOf(2, Ask.TELLS_AT);
                if (first >= second || second >= last) {
                    continue;
                }
                for (int i = 0; i < heard; i++) {
                    x.hears(2, i, 0);
                }
                x.ticks(last - 4);
                CHECK.due("FEW at first: HEARD", x.machineOf(2, Ask.HEARD), heard);
                x.ticks(1);
                CHECK.due("FEW at first, HEARD " + heard + ": TELLS", x.machineOf(2, Ask.TELLS), 3 - heard);
                seen++;
            }
        }
        CHECK.due("FEW at first was seen", seen > 0, true);
    }

    private static void likeTellsAreCounted() {
        MeshField x = Pair.steady();
        x.hears(1, 0, 0);
        x.hears(0, 1, 0);
        Ask.pieces(x, 5);
        x.load(0, 3);
        Ask.pieces(x, 6);
        x.load(1, 3);
        x.ticks(1);
        CHECK.due("like NUMBER and RANK, whatever the data: HEARD", x.machineOf(1, Ask.HEARD), 1);
        x.cut(0, true);
        x.ticks(1);
        CHECK.due("other RANK: not HEARD", x.machineOf(0, Ask.HEARD), 0);
    }

    private static void sendersHearNothing() {
        MeshField x = new MeshField();
        x.rules(9, 2, 2, 1);
        for (int i = 0; i < 3; i++) {
            x.machine();
        }
        x.hears(0, 1, 100);
        x.hears(1, 0, 0);
        x.hears(2, 0, 0);
        x.hears(2, 1, 0);
        x.ticks(2);
        for (int i = 0; i < 3; i++) {
            CHECK.due("all send: TELLS", x.machineOf(i, Ask.TELLS), 1);
            CHECK.due("all send: HEARD", x.machineOf(i, Ask.HEARD), 0);
            CHECK.due("all send: SPOILT", x.machineOf(i, Ask.SPOILT), 0);
            CHECK.due("all send: lost", x.machineOf(i, Ask.LOST), 0);
        }
        CHECK.due("all send: letters", x.about(Ask.LETTERS), 3);
    }

    private static void twoLettersSpoil() {
        MeshField x = new MeshField();
        x.rules(9, 2, 2, 1);
        for (int i = 0; i < 3; i++) {
            x.machine();
        }
        x.ticks(1);
        x.machine();
        x.machine();
        x.machine();
        for (int i = 0; i < 3; i++) {
            x.hears(3, i, 0);
        }
        x.hears(4, 1, 0);
        x.hears(5, 0, 100);
        x.hears(5, 2, 0);
        x.ticks(1);
        CHECK.due("two at once: SPOILT", x.machineOf(5, Ask.SPOILT), 1);
        CHECK.due("two at once: HEARD", x.machineOf(5, Ask.HEARD), 0);
        CHECK.due("two at once: lost", x.machineOf(5, Ask.LOST), 0);
        CHECK.due("three at once: one SPOILT more", x.machineOf(3, Ask.SPOILT), 1);
        CHECK.due("three at once: HEARD", x.machineOf(3, Ask.HEARD), 0);
        CHECK.due("three at once: lost", x.machineOf(3, Ask.LOST), 0);
        CHECK.due("one that it hears: SPOILT", x.machineOf(4, Ask.SPOILT), 0);
        CHECK.due("one that it hears: HEARD", x.machineOf(4, Ask.HEARD), 1);
    }

    private static void lettersAreLostByOdds() {
        int[] odds = {0, 1, 37, 50, 99, 100};
        for (int o : odds) {
            for (int s = -60; s < 60; s++) {
                MeshField x = Pair.steady();
                x.hears(1, 0, o);
                int seed = s * 7654321;
                x.seed(seed);
                boolean lost = new Dice(seed).below(100) < o;
                x.ticks(1);
                CHECK.due("odds " + o + " seed " + seed + ": lost", x.machineOf(1, Ask.LOST), lost ? 1 : 0);
                CHECK.due("odds " + o + " seed " + seed + ": HEARD", x.machineOf(1, Ask.HEARD), lost ? 0 : 1);
            }
        }
    }

    private static void lesserTellAsksForData() {
        for (int s = 0; s < 50; s++) {
            MeshField x = Pair.steady(9, 32);
            Ask.pieces(x, 5);
            x.load(0, 3);
            x.hears(0, 1, 0);
            x.ticks(1);
            x.seed(s);
            Dice dice = new Dice(s);
            dice.below(100);
            x.ticks(1);
            CHECK.due("DATA-AT, seed " + s, x.machineOf(0, Ask.DATA_AT), 2 + 1 + dice.below(32));
            CHECK.due("not HEARD, seed " + s, x.machineOf(0, Ask.HEARD), 0);
            CHECK.due("the teller has no DATA-AT", x.machineOf(1, Ask.DATA_AT), -1);
        }
    }

    private static void waitAtFirst() {
        int seen = 0;
        for (int s = 0; s < 100; s++) {
            MeshField x = new MeshField();
            x.seed(s);
            x.machine();
            x.machine();
            Ask.pieces(x, 5);
            x.load(0, 3);
            x.hears(0, 1, 0);
            int at = x.machineOf(1, Ask.TELLS_AT);
            if (x.machineOf(0, Ask.TELLS_AT) == at) {
                continue;
            }
            x.ticks(at);
            x.seed(s + 50);
            Dice dice = new Dice(s + 50);
            dice.below(100);
            x.ticks(1);
            CHECK.due("WAIT at first: DATA-AT", x.machineOf(0, Ask.DATA_AT), at + 1 + dice.below(6));
            seen++;
        }
        CHECK.due("WAIT at first was seen", seen > 0, true);
    }

    private static void tellOfLesserRankAsksForData() {
        MeshField x = Pair.steady();
        Ask.pieces(x, 5, 6);
        x.load(0, 3);
        Ask.pieces(x, 5, 6);
        x.load(1, 3);
        x.cut(1, true);
        x.hears(0, 1, 0);
        x.ticks(2);
        CHECK.due("lesser RANK: DATA-AT", x.machineOf(0, Ask.DATA_AT), 3);
    }

    private static void greaterTellAsksForNothing() {
        MeshField x = Pair.steady();
        Ask.pieces(x, 5);
        x.load(0, 3);
        x.hears(1, 0, 0);
        x.ticks(1);
        CHECK.due("greater NUMBER: DATA-AT", x.machineOf(1, Ask.DATA_AT), -1);
        CHECK.due("greater NUMBER: HEARD", x.machineOf(1, Ask.HEARD), 0);
        CHECK.due("greater NUMBER in a tell: NUMBER", x.machineOf(1, Ask.NUMBER), 0);
        MeshField y = Pair.steady();
        Ask.pieces(y, 5, 6);
        y.load(0, 3);
        Ask.pieces(y, 5, 6);
        y.load(1, 3);
        y.cut(1, true);
        y.hears(1, 0, 0);
        y.ticks(1);
        CHECK.due("greater RANK: DATA-AT", y.machineOf(1, Ask.DATA_AT), -1);
        CHECK.due("greater RANK: HEARD", y.machineOf(1, Ask.HEARD), 0);
        Ask.pieces(y, 1);
        y.load(1, 4);
        y.ticks(2);
        CHECK.due("lesser NUMBER of greater RANK: DATA-AT", y.machineOf(1, Ask.DATA_AT), 4);
    }

    private static void dataAtStaysOnceSet() {
        MeshField x = Pair.steady(9, 32);
        Ask.pieces(x, 5);
        x.load(0, 3);
        x.hears(0, 1, 0);
        x.ticks(1);
        x.seed(seedOfLatest());
        x.ticks(1);
        CHECK.due("DATA-AT", x.machineOf(0, Ask.DATA_AT), 34);
        x.ticks(20);
        CHECK.due("DATA-AT after ten tells more", x.machineOf(0, Ask.DATA_AT), 34);
    }

    /** One loss is drawn first; then data are to wait as long as can be. */
    private static int seedOfLatest() {
        for (int s = 0; s < 100000; s++) {
            Dice dice = new Dice(s);
            dice.below(100);
            if (dice.below(32) == 31) {
                return s;
            }
        }
        return 0;
    }

    private static void stirredAheadOfData() {
        for (int s = 0; s < 40; s++) {
            MeshField x = new MeshField();
            x.rules(9, 64, 1024, 32);
            x.seed(s);
            x.machine();
            Ask.pieces(x, 5);
            x.load(0, 3);
            x.ticks(100);
            x.machine();
            x.hears(0, 1, 0);
            int at = x.machineOf(1, Ask.TELLS_AT);
            if (x.machineOf(0, Ask.TELLS_AT) == at) {
                continue;
            }
            x.ticks(at - 100);
            CHECK.due("SPAN ahead of the letter", x.machineOf(0, Ask.SPAN), 128);
            x.seed(s + 1000);
            Dice dice = new Dice(s + 1000);
            dice.below(100);
            x.ticks(1);
            CHECK.due("stirred: SPAN", x.machineOf(0, Ask.SPAN), 64);
            CHECK.due("stirred: BEGAN", x.machineOf(0, Ask.BEGAN), at + 1);
            CHECK.due("stirred: TELLS-AT", x.machineOf(0, Ask.TELLS_AT), at + 1 + 32 + dice.below(32));
            CHECK.due("stirred: DATA-AT", x.machineOf(0, Ask.DATA_AT), at + 1 + dice.below(32));
        }
    }

    /** At tick 3: machine 0, of the PIECES told, has DATA-AT 3 and TELLS-AT 3; machine 1 keeps none. */
    private static MeshField aboutToMix(int... pieces) {
        MeshField x = Pair.steady();
        Ask.pieces(x, pieces);
        x.load(0, 5);
        x.hears(0, 1, 0);
        x.ticks(2);
        CHECK.due("about to mix: DATA-AT", x.machineOf(0, Ask.DATA_AT), 3);
        CHECK.due("about to mix: TELLS-AT", x.machineOf(0, Ask.TELLS_AT), 3);
        return x;
    }

    private static void mixGoesAheadOfTell() {
        MeshField x = aboutToMix(70);
        x.ticks(1);
        CHECK.due("MIX sent", x.machineOf(0, Ask.MIXES), 1);
        CHECK.due("no TELL beside it", x.machineOf(0, Ask.TELLS), 1);
        CHECK.due("DATA-AT is none", x.machineOf(0, Ask.DATA_AT), -1);
        CHECK.due("letters of both kinds", x.about(Ask.LETTERS), 3);
    }

    private static void noMixWithoutRank() {
        MeshField x = new MeshField();
        x.rules(9, 2, 2, 1);
        x.machine();
        Ask.pieces(x, 70);
        x.load(0, 5);
        x.cut(0, true);
        x.ticks(1);
        x.machine();
        x.hears(0, 1, 0);
        x.ticks(2);
        CHECK.due("empty, and asked for data: DATA-AT", x.machineOf(0, Ask.DATA_AT), 3);
        CHECK.due("empty, and asked for data: TELLS", x.machineOf(0, Ask.TELLS), 1);
        x.ticks(1);
        CHECK.due("empty: no MIX", x.machineOf(0, Ask.MIXES), 0);
        CHECK.due("empty: a TELL instead", x.machineOf(0, Ask.TELLS), 2);
        CHECK.due("empty: DATA-AT is none", x.machineOf(0, Ask.DATA_AT), -1);
    }

    private static void mixIsDrawn() {
        int[] pieces = new int[12];
        for (int i = 0; i < 12; i++) {
            pieces[i] = (i + 3) * 1234567891;
        }
        for (int s = 0; s < 200; s++) {
            MeshField x = aboutToMix(pieces);
            x.hears(1, 0, 0);
            x.seed(s * 99991);
            int drawn = new Dice(s * 99991).below(4096);
            int mask = 0;
            int data = 0;
            for (int i = 0; i < 12; i++) {
                if ((drawn >> i & 1) == 1) {
                    mask |= 1 << (11 - i);
                    data ^= pieces[11 - i];
                }
            }
            if (drawn == 0) {
                mask = 1 << 11;
                data = pieces[11];
            }
            x.ticks(1);
            CHECK.due("MIX drawn " + drawn + ": MASK", x.machineOf(1, Ask.MASK), mask);
            CHECK.due("MIX drawn " + drawn + ": data", x.data(1, 0), data);
            CHECK.due("MIX drawn " + drawn + ": SUM", x.sum(1), Ask.sumOf(pieces));
            CHECK.due("MIX drawn " + drawn + ": PIECES", x.machineOf(1, Ask.PIECES), 12);
        }
    }

    private static void mixOfOneOrNoneSet() {
        int[] wanted = {2, 2, 1, 3};
        for (int s = 0; s < 60; s++) {
            MeshField x = aboutToMix(70, 9);
            x.hears(1, 0, 0);
            x.seed(s);
            int mask = wanted[new Dice(s).below(4096) & 3];
            x.ticks(1);
            CHECK.due("two PIECES, seed " + s + ": MASK", x.machineOf(1, Ask.MASK), mask);
            CHECK.due("two PIECES, seed " + s + ": data", x.data(1, 0), mask == 1 ? 70 : mask == 2 ? 9 : 70 ^ 9);
        }
    }

    private static void mixOfGreaterNumberIsKept() {
        MeshField x = aboutToMix(70);
        Ask.pieces(x, 1, 2, 3);
        x.load(1, 4);
        x.hears(1, 0, 0);
        x.ticks(1);
        CHECK.due("kept: NUMBER", x.machineOf(1, Ask.NUMBER), 5);
        CHECK.due("kept: PIECES", x.machineOf(1, Ask.PIECES), 1);
        CHECK.due("kept: RANK", x.machineOf(1, Ask.RANK), 1);
        CHECK.due("kept: WHOLE", x.machineOf(1, Ask.WHOLE), 1);
        CHECK.due("kept: SUM", x.sum(1), 70);
        CHECK.due("kept: data", x.data(1, 0), 70);
        CHECK.due("all WHOLE at the end of tick 3", x.about(Ask.ALL_WHOLE), 3);
    }

    private static void mixOfLesserNumberIsNotTaken() {
        MeshField x = aboutToMix(70);
        Ask.pieces(x, 1, 2, 3);
        x.load(1, 6);
        x.cut(1, true);
        x.hears(1, 0, 0);
        x.ticks(1);
        CHECK.due("lesser: MIX sent", x.machineOf(0, Ask.MIXES), 1);
        CHECK.due("lesser: NUMBER", x.machineOf(1, Ask.NUMBER), 6);
        CHECK.due("lesser: RANK", x.machineOf(1, Ask.RANK), 2);
        CHECK.due("lesser: SUM", x.sum(1), 14);
        CHECK.due("lesser: DATA-AT", x.machineOf(1, Ask.DATA_AT), -1);
    }

    private static void mixOfAnotherProgramIsNotTaken() {
        int[][] others = {{71}, {70, 0}, {0, 35}};
        for (int[] other : others) {
            MeshField x = aboutToMix(70);
            Ask.pieces(x, other);
            x.load(1, 5);
            x.cut(1, true);
            int rank = x.machineOf(1, Ask.RANK);
            x.hears(1, 0, 0);
            x.ticks(1);
            CHECK.due("other PIECES or SUM: RANK", x.machineOf(1, Ask.RANK), rank);
            CHECK.due("other PIECES or SUM: SUM", x.sum(1), Ask.sumOf(other));
            CHECK.due("other PIECES or SUM: LIES", x.machineOf(1, Ask.LIES), 0);
        }
    }

    private static final int[] HEARER_NUMBERS = {4, 5, 5, 5, 5, 6};
    private static final int[][] HEARER_PIECES = {{1, 2}, {70, 8}, {70, 8}, {70, 9}, {86}, {70, 8}};
    private static final boolean[] HEARER_TORN = {false, false, true, false, false, false};

    /** At tick 0: machine 0 keeps 5 of 70 and 8, machine 1 what a case says. */
    private static void loadCase(MeshField x, int which) {
        x.machine();
        x.machine();
        Ask.pieces(x, 70, 8);
        x.load(0, 5);
        Ask.pieces(x, HEARER_PIECES[which]);
        x.load(1, HEARER_NUMBERS[which]);
        if (HEARER_TORN[which]) {
            x.cut(1, true);
        }
    }

    private static void mixEndsDataAt() {
        boolean[] ends = {true, true, true, false, false, false};
        for (int i = 0; i < ends.length; i++) {
            MeshField x = new MeshField();
            x.rules(9, 2, 2, 32);
            loadCase(x, i);
            x.ticks(1);
            x.machine();
            x.hears(0, 2, 0);
            x.hears(1, 2, 0);
            x.ticks(1);
            x.seed(seedOfEarlyAndLate());
            x.ticks(1);
            int late = x.machineOf(1, Ask.DATA_AT);
            CHECK.due("case " + i + ": DATA-AT of 0", x.machineOf(0, Ask.DATA_AT), 4);
            CHECK.due("case " + i + ": DATA-AT of 1 is late", late > 20, true);
            x.hears(1, 2, MeshField.NONE);
            x.hears(1, 0, 0);
            x.ticks(2);
            CHECK.due("case " + i + ": MIX sent", x.machineOf(0, Ask.MIXES), 1);
            CHECK.due("case " + i + ": DATA-AT of 1", x.machineOf(1, Ask.DATA_AT), ends[i] ? -1 : late);
        }
    }

    /** Two losses are drawn first; then machine 0's data are to wait 1 tick more, machine 1's over 20. */
    private static int seedOfEarlyAndLate() {
        for (int s = 0; s < 100000; s++) {
            Dice dice = new Dice(s);
            dice.below(100);
            dice.below(100);
            if (dice.below(32) == 1 && dice.below(32) > 20) {
                return s;
            }
        }
        return 0;
    }

    private static void mixStirsOnlyIfItComesIn() {
        int[] seen = new int[HEARER_NUMBERS.length];
        int came = 0;
        for (int s = 0; s < 20 * seen.length; s++) {
            int which = s % seen.length;
            MeshField x = new MeshField();
            x.rules(9, 2, 1024, 1);
            x.seed(s * 31);
            loadCase(x, which);
            x.ticks(100);
            x.machine();
            x.hears(0, 2, 0);
            // Neither may send at a tick at which it is to hear.
            if (x.machineOf(0, Ask.TELLS_AT) == 101 || x.machineOf(1, Ask.TELLS_AT) == 102) {
                continue;
            }
            x.ticks(2);
            x.hears(1, 0, 0);
            int rank = x.machineOf(1, Ask.RANK);
            CHECK.due("case " + which + ": SPAN ahead", x.machineOf(1, Ask.SPAN), 64);
            x.ticks(1);
            boolean comes = x.machineOf(1, Ask.RANK) != rank;
            boolean stirs = comes || which != 1 && which != 2;
            CHECK.due("case " + which + ": MIX sent", x.machineOf(0, Ask.MIXES), 1);
            CHECK.due("case " + which + ": SPAN", x.machineOf(1, Ask.SPAN), stirs ? 2 : 64);
            CHECK.due("case " + which + ": BEGAN", x.machineOf(1, Ask.BEGAN), stirs ? 103 : 62);
            seen[which]++;
            came += which == 2 && comes ? 1 : 0;
        }
        for (int i = 0; i < seen.length; i++) {
            CHECK.due("case " + i + " was seen", seen[i] > 0, true);
        }
        CHECK.due("a torn one took some and not others", came > 0 && came < seen[2], true);
    }

    private static void turnIsCarried() {
        MeshField x = Pair.steady();
        x.hears(1, 0, 0);
        x.turn(0, 8, 500);
        x.turn(1, 7, 600);
        x.ticks(1);
        CHECK.due("carried by a TELL: TURN", x.machineOf(1, Ask.TURN), 8);
        CHECK.due("carried by a TELL: tick", x.machineOf(1, Ask.TURN_TICK), 500);
        MeshField y = Pair.steady();
        y.hears(1, 0, 0);
        y.turn(0, 8, 500);
        y.turn(1, 8, 600);
        y.ticks(1);
        CHECK.due("the same NUMBER isn't taken", y.machineOf(1, Ask.TURN_TICK), 600);
        MeshField z = Pair.steady();
        z.hears(1, 0, 0);
        z.turn(0, 8, 500);
        z.turn(1, 9, 600);
        z.ticks(1);
        CHECK.due("a lesser NUMBER isn't taken", z.machineOf(1, Ask.TURN), 9);
    }

    private static void turnIsCarriedByMixes() {
        int[] numbers = {4, 5, 6};
        for (int number : numbers) {
            MeshField x = aboutToMix(70);
            Ask.pieces(x, 1, 2);
            x.load(1, number);
            x.turn(0, 8, 500);
            x.hears(1, 0, 0);
            x.ticks(1);
            CHECK.due("MIX sent", x.machineOf(0, Ask.MIXES), 1);
            CHECK.due("carried by a MIX, whatever it works: TURN", x.machineOf(1, Ask.TURN), 8);
            CHECK.due("carried by a MIX, whatever it works: tick", x.machineOf(1, Ask.TURN_TICK), 500);
        }
    }

    private static void runsAtTheTurn() {
        for (int at = 0; at < 5; at++) {
            MeshField x = new MeshField();
            x.machine();
            Ask.pieces(x, 1, 2);
            x.load(0, 3);
            x.turn(0, 3, at);
            CHECK.due("turn at " + at + ": RUNS at once", x.machineOf(0, Ask.RUNS), 0);
            for (int tick = 1; tick < 7; tick++) {
                x.ticks(1);
                CHECK.due("turn at " + at + ": RUNS at " + tick, x.machineOf(0, Ask.RUNS), tick >= at ? 3 : 0);
            }
        }
    }

    private static void runsLater() {
        MeshField x = new MeshField();
        x.machine();
        Ask.pieces(x, 1, 2);
        x.load(0, 3);
        x.cut(0, true);
        x.turn(0, 3, 2);
        x.ticks(10);
        CHECK.due("not WHOLE: RUNS", x.machineOf(0, Ask.RUNS), 0);
        x.lie(0, 1, 1);
        CHECK.due("WHOLE, not yet at a tick's end: RUNS", x.machineOf(0, Ask.RUNS), 0);
        x.ticks(1);
        CHECK.due("WHOLE later: RUNS", x.machineOf(0, Ask.RUNS), 3);
        x.turn(0, 4, 0);
        x.ticks(1);
        CHECK.due("a TURN of a NUMBER that it doesn't keep", x.machineOf(0, Ask.RUNS), 3);
        Ask.pieces(x, 1, 2);
        x.load(0, 5);
        x.ticks(1);
        CHECK.due("a TURN of a lesser NUMBER than it keeps", x.machineOf(0, Ask.RUNS), 3);
    }

    private static void spansAreDrawnByMachines() {
        MeshField x = new MeshField();
        x.rules(1, 64, 1024, 1);
        for (int i = 0; i < 12; i++) {
            x.machine();
        }
        x.ticks(63);
        x.seed(31337);
        Dice dice = new Dice(31337);
        x.ticks(1);
        for (int i = 0; i < 12; i++) {
            CHECK.due("machine " + i + ": TELLS-AT", x.machineOf(i, Ask.TELLS_AT), 64 + 64 + dice.below(64));
        }
    }
}
