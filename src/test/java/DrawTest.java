/** Which DRAWS are made, and in which order: those of a tick, and those of the calls between ticks. */
public final class DrawTest {
    private static final Check CHECK = new Check();

    public static void main(String[] args) {
        belowOneMovesTheSeed();
        oneAloneIsDrawnForWhateverItsOdds();
        mixesAreDrawnByMachines();
        mixesAreDrawnAheadOfLosses();
        noMixIsDrawnWithoutRank();
        lossesAreDrawnByMachines();
        lossesAreDrawnAheadOfWhatWorks();
        whatWorksIsDrawnByMachines();
        whatWorksIsDrawnAheadOfTheEnd();
        stirringIsDrawnAtOnceByMachines();
        spansAreDrawnAtHighToo();
        runningDrawsNothing();
        CHECK.end();
    }

    private static void belowOneMovesTheSeed() {
        CHECK.sentence("A DRAW below m: s becomes s * 1103515245 + 12345 (whatever m)");
        MeshField x = Pair.steady();
        x.hears(1, 0, 50);
        // The machine that comes draws below 1, the letter after it below 100.
        x.seed(Dice.seedOf(100, 50, 100, 49));
        x.machine();
        x.ticks(1);
        CHECK.due("the second DRAW is the letter's: lost", x.machineOf(1, Ask.LOST), 1);
    }

    private static void oneAloneIsDrawnForWhateverItsOdds() {
        CHECK.sentence("if one: a DRAW below 100 (at the ODDS 0 and 100 too)");
        int[] odds = {0, 1, 99, 100};
        for (int o : odds) {
            MeshField x = Tellers.calm(9, 1, 33, 60, 61);
            x.hears(1, 0, o);
            x.hears(2, 0, 50);
            x.ticks(33);
            x.seed(Dice.seedOf(100, 50, 100, 49));
            x.ticks(1);
            CHECK.due("ODDS " + o + ": machine 1 lost", x.machineOf(1, Ask.LOST), o > 50 ? 1 : 0);
            CHECK.due("ODDS " + o + ": the second DRAW is machine 2's", x.machineOf(2, Ask.LOST), 1);
        }
    }

    /** At tick 37: machines 0 and 1, of 16 and 32 as NUMBER 5, have DATA-AT 37; machines 3 and 4 keep none. */
    private static MeshField twoAboutToMix() {
        MeshField x = Tellers.calm(9, 1, 60, 61, 36, 62, 63);
        for (int i = 0; i < 2; i++) {
            Tellers.load(x, i, 5, 16, 32);
            x.hears(i, 2, 0);
        }
        x.ticks(37);
        for (int i = 0; i < 2; i++) {
            CHECK.due("about to mix: DATA-AT of " + i, x.machineOf(i, Ask.DATA_AT), 37);
        }
        return x;
    }

    private static void mixesAreDrawnByMachines() {
        CHECK.sentence("First, SENDERS; DRAWS by machines.");
        MeshField x = twoAboutToMix();
        x.hears(3, 0, 0);
        x.hears(4, 1, 0);
        x.seed(Dice.seedOf(4096, 1, 4096, 2));
        x.ticks(1);
        CHECK.due("the first DRAW is machine 0's: MASK", x.machineOf(3, Ask.MASK), 2);
        CHECK.due("the second DRAW is machine 1's: MASK", x.machineOf(4, Ask.MASK), 1);
    }

    private static void mixesAreDrawnAheadOfLosses() {
        CHECK.sentence("First, SENDERS; Then, machine by machine, those that don't send");
        MeshField x = Tellers.calm(9, 1, 63, 36, 60);
        Tellers.load(x, 2, 5, 16, 32);
        x.hears(2, 1, 0);
        x.hears(0, 2, 50);
        x.ticks(37);
        x.seed(Dice.seedOf(4096, 2, 100, 50));
        x.ticks(1);
        CHECK.due("a sender behind its hearer: MASK", x.machineOf(0, Ask.MASK), 1);
        CHECK.due("a sender behind its hearer: lost", x.machineOf(0, Ask.LOST), 0);
    }

    private static void noMixIsDrawnWithoutRank() {
        CHECK.sentence("sends a MIX if its RANK is above 0 (else none is DRAWN)");
        MeshField x = Tellers.calm(9, 1, 63, 35, 36);
        Tellers.load(x, 0, 5, 16);
        Tellers.tear(x, 0, 63);
        x.hears(0, 1, 0);
        x.hears(0, 2, 50);
        x.ticks(36);
        CHECK.due("DATA-AT is this tick", x.machineOf(0, Ask.DATA_AT), 36);
        x.seed(Dice.seedOf(100, 49, 100, 50));
        x.ticks(1);
        CHECK.due("the first DRAW is the loss's: lost", x.machineOf(0, Ask.LOST), 1);
        CHECK.due("no MIX", x.machineOf(0, Ask.MIXES), 0);
    }

    private static void lossesAreDrawnByMachines() {
        CHECK.sentence("Then, machine by machine, those that don't send: if one: a DRAW below 100");
        MeshField x = Tellers.calm(9, 1, 60, 61, 33, 62);
        for (int i = 0; i < 4; i++) {
            x.hears(i, 2, 50);
        }
        x.ticks(33);
        x.seed(Dice.seedOf(100, 49, 100, 48, 100, 50));
        x.ticks(1);
        CHECK.due("machine 0 lost", x.machineOf(0, Ask.LOST), 1);
        CHECK.due("machine 1 lost", x.machineOf(1, Ask.LOST), 1);
        CHECK.due("machine 3 lost", x.machineOf(3, Ask.LOST), 0);
    }

    private static void lossesAreDrawnAheadOfWhatWorks() {
        CHECK.sentence("Then those that don't send; Then, machine by machine, what was heard works");
        MeshField x = Tellers.calm(9, 32, 33, 60, 61);
        Tellers.load(x, 1, 5, 16);
        x.hears(1, 0, 50);
        x.hears(2, 0, 50);
        x.ticks(33);
        x.seed(Dice.seedOf(100, 50, 100, 49, 32, 7));
        x.ticks(1);
        CHECK.due("the second DRAW is machine 2's: lost", x.machineOf(2, Ask.LOST), 1);
        CHECK.due("the third is machine 1's: DATA-AT", x.machineOf(1, Ask.DATA_AT), 33 + 1 + 7);
    }

    private static void whatWorksIsDrawnByMachines() {
        CHECK.sentence("Then, machine by machine, what was heard works.");
        MeshField x = Tellers.calm(9, 32, 60, 33, 61);
        for (int i = 0; i < 3; i += 2) {
            Tellers.load(x, i, 5, 16);
            x.hears(i, 1, 0);
        }
        x.ticks(33);
        x.seed(Dice.seedOf(100, Dice.ANY, 100, Dice.ANY, 32, 3, 32, 30));
        x.ticks(1);
        CHECK.due("machine 0: DATA-AT", x.machineOf(0, Ask.DATA_AT), 33 + 1 + 3);
        CHECK.due("machine 2: DATA-AT", x.machineOf(2, Ask.DATA_AT), 33 + 1 + 30);
    }

    private static void whatWorksIsDrawnAheadOfTheEnd() {
        CHECK.sentence("what was heard works. Then, machine by machine: if SPAN ticks are over at the end of this tick");
        MeshField x = new MeshField();
        x.rules(9, 4, 64, 32);
        // Machines 0 and 1 tell at 2, machine 2 at 3, the last tick of all three intervals.
        x.seed(Dice.seedOf(2, 0, 2, 0, 2, 1));
        for (int i = 0; i < 3; i++) {
            x.machine();
        }
        Tellers.load(x, 1, 5, 16);
        x.hears(1, 2, 0);
        x.ticks(3);
        x.seed(Dice.seedOf(100, Dice.ANY, 32, 7, 4, 1, 4, 2, 4, 3));
        x.ticks(1);
        CHECK.due("machine 1, of the letter: DATA-AT", x.machineOf(1, Ask.DATA_AT), 3 + 1 + 7);
        for (int i = 0; i < 3; i++) {
            CHECK.due("machine " + i + ", at the end: TELLS-AT", x.machineOf(i, Ask.TELLS_AT), 4 + 4 + 1 + i);
        }
    }

    private static void stirringIsDrawnAtOnceByMachines() {
        CHECK.sentence("one BEGINS at the next tick (its DRAW at once, ahead of that for DATA-AT)");
        MeshField x = Tellers.grown(9, 32, 90, 70, 91);
        for (int i = 0; i < 3; i += 2) {
            x.hears(i, 1, 0);
        }
        // Loading stirs it too, so it tells ahead of the tick that was chosen.
        Tellers.load(x, 1, 5, 16);
        Tellers.goTo(x, x.machineOf(1, Ask.TELLS_AT));
        int at = x.about(Ask.TICK);
        CHECK.due("SPAN of 0 ahead", x.machineOf(0, Ask.SPAN), 64);
        CHECK.due("SPAN of 2 ahead", x.machineOf(2, Ask.SPAN), 64);
        x.seed(Dice.seedOf(100, Dice.ANY, 100, Dice.ANY, 16, 3, 16, 12));
        x.ticks(1);
        CHECK.due("machine 0: TELLS-AT", x.machineOf(0, Ask.TELLS_AT), at + 1 + 16 + 3);
        CHECK.due("machine 2: TELLS-AT", x.machineOf(2, Ask.TELLS_AT), at + 1 + 16 + 12);
        CHECK.due("a TELL of a greater NUMBER: DATA-AT", x.machineOf(0, Ask.DATA_AT), -1);
    }

    private static void spansAreDrawnAtHighToo() {
        CHECK.sentence("SPAN is doubled (HIGH at most) and one BEGINS at the next tick: a DRAW below SPAN - SPAN / 2");
        for (int s = 0; s < 20; s++) {
            MeshField x = new MeshField();
            x.rules(9, 62, 62, 1);
            x.machine();
            x.ticks(61);
            x.seed(s * 7919);
            x.ticks(1);
            CHECK.due("seed " + s * 7919 + ": SPAN", x.machineOf(0, Ask.SPAN), 62);
            CHECK.due("seed " + s * 7919 + ": TELLS-AT", x.machineOf(0, Ask.TELLS_AT),
                62 + 31 + new Dice(s * 7919).below(31));
        }
    }

    private static void runningDrawsNothing() {
        CHECK.sentence("A machine that is WHOLE of the TURN's NUMBER RUNS it (it DRAWS nothing)");
        for (int s = 0; s < 20; s++) {
            MeshField x = Tellers.calm(9, 1, 40);
            Tellers.load(x, 0, 5, 16);
            x.turn(0, 5, 0);
            x.seed(s * 7919);
            x.ticks(50);
            CHECK.due("it RUNS", x.machineOf(0, Ask.RUNS), 5);
            x.machine();
            CHECK.due("seed " + s * 7919 + ": the first DRAW is the next machine's", x.machineOf(1, Ask.TELLS_AT),
                50 + 32 + new Dice(s * 7919).below(32));
        }
    }
}
