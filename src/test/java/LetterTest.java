/** What a letter does and leaves at the one that sends it, and at those that hear it, lose it or have it spoilt. */
public final class LetterTest {
    private static final Check CHECK = new Check();

    public static void main(String[] args) {
        silentOnesHear();
        askedOnesWithoutRankHear();
        mixIsSentWhateverWasHeard();
        tellingLeavesHeard();
        mixIsNotCountedAsHeard();
        stirredHasHeardNone();
        stirredAtLowIsLeft();
        dataAtStays();
        lostLettersDoNothing();
        spoiltLettersDoNothing();
        turnBelowTheKeptNumberIsTaken();
        turnDoesNotStir();
        turnIsRunAtItsTickAlone();
        turnStaysWhenItRuns();
        newProgramLeavesTheRest();
        CHECK.end();
    }

    private static void silentOnesHear() {
        CHECK.sentence("Then, machine by machine, those that don't send (one that has HEARD as many as FEW)");
        MeshField x = Tellers.calm(1, 1, 40, 35, 40);
        x.hears(0, 1, 0);
        x.hears(0, 2, 0);
        x.ticks(40);
        CHECK.due("HEARD ahead of TELLS-AT", x.machineOf(0, Ask.HEARD), 1);
        x.ticks(1);
        CHECK.due("no TELL", x.machineOf(0, Ask.TELLS), 0);
        CHECK.due("HEARD at TELLS-AT", x.machineOf(0, Ask.HEARD), 2);
        CHECK.due("letters", x.about(Ask.LETTERS), 2);
    }

    private static void askedOnesWithoutRankHear() {
        CHECK.sentence("Then, machine by machine, those that don't send (DATA-AT is this tick, RANK is 0)");
        MeshField x = Tellers.calm(9, 1, 63, 35, 36);
        Tellers.load(x, 0, 5, 16);
        Tellers.tear(x, 0, 63);
        x.hears(0, 1, 0);
        x.hears(0, 2, 0);
        x.ticks(36);
        CHECK.due("DATA-AT", x.machineOf(0, Ask.DATA_AT), 36);
        x.ticks(1);
        CHECK.due("it heard another one: DATA-AT", x.machineOf(0, Ask.DATA_AT), 37);
        CHECK.due("no MIX", x.machineOf(0, Ask.MIXES), 0);
    }

    private static void mixIsSentWhateverWasHeard() {
        CHECK.sentence("a machine whose DATA-AT is this tick sends a MIX if its RANK is above 0 (whatever it HEARD)");
        int[] tellsAt = {37, 63};
        for (int at : tellsAt) {
            MeshField x = Tellers.calm(1, 1, at, 35, 36);
            Tellers.load(x, 0, 5, 16);
            Tellers.load(x, 1, 5, 16);
            x.hears(0, 1, 0);
            x.hears(0, 2, 0);
            x.ticks(37);
            CHECK.due("TELLS-AT " + at + ": HEARD as many as FEW", x.machineOf(0, Ask.HEARD), 1);
            CHECK.due("TELLS-AT " + at + ": DATA-AT", x.machineOf(0, Ask.DATA_AT), 37);
            x.ticks(1);
            CHECK.due("TELLS-AT " + at + ": MIXES", x.machineOf(0, Ask.MIXES), 1);
            CHECK.due("TELLS-AT " + at + ": TELLS", x.machineOf(0, Ask.TELLS), 0);
            CHECK.due("TELLS-AT " + at + ": HEARD stays", x.machineOf(0, Ask.HEARD), 1);
            CHECK.due("TELLS-AT " + at + ": BEGAN stays", x.machineOf(0, Ask.BEGAN), 0);
            CHECK.due("TELLS-AT " + at + ": it stays", x.machineOf(0, Ask.TELLS_AT), at);
        }
    }

    private static void tellingLeavesHeard() {
        CHECK.sentence("HEARD (how many like letters)");
        MeshField x = Tellers.calm(2, 1, 40, 35, 45);
        x.hears(0, 1, 0);
        x.hears(0, 2, 0);
        x.ticks(41);
        CHECK.due("it told: TELLS", x.machineOf(0, Ask.TELLS), 1);
        CHECK.due("it told: HEARD stays", x.machineOf(0, Ask.HEARD), 1);
        x.ticks(5);
        CHECK.due("one more after its own: HEARD", x.machineOf(0, Ask.HEARD), 2);
    }

    /** At tick 38: machine 1 keeps what is told, has heard a like TELL at 33, and a MIX of 5, of 16 and 32, at 37. */
    private static MeshField heardThenMixed(int number, int[] pieces, boolean torn) {
        MeshField x = Tellers.calm(9, 1, 63, 62, 33, 36);
        Tellers.load(x, 0, 5, 16, 32);
        x.hears(0, 3, 0);
        for (int i = 1; i < 3; i++) {
            Tellers.load(x, i, number, pieces);
            if (torn) {
                Tellers.tear(x, i, i == 1 ? 62 : 33);
            }
        }
        x.hears(1, 2, 0);
        x.ticks(37);
        CHECK.due("HEARD ahead of the MIX", x.machineOf(1, Ask.HEARD), 1);
        x.hears(1, 0, 0);
        x.seed(Dice.seedOf(4096, 2));
        x.ticks(1);
        CHECK.due("a MIX was sent", x.machineOf(0, Ask.MIXES), 1);
        return x;
    }

    private static void mixIsNotCountedAsHeard() {
        CHECK.sentence("A TELL of its own NUMBER and RANK: HEARD one more (a MIX is none); STIRRED: else nothing.");
        int[] own = {16, 32};
        MeshField has = heardThenMixed(5, own, false);
        CHECK.due("of its own, it has it: HEARD", has.machineOf(1, Ask.HEARD), 1);
        MeshField comes = heardThenMixed(5, own, true);
        CHECK.due("of its own, it comes: RANK", comes.machineOf(1, Ask.RANK), 2);
        CHECK.due("of its own, it comes: HEARD", comes.machineOf(1, Ask.HEARD), 1);
        MeshField other = heardThenMixed(5, new int[] {16, 33}, false);
        CHECK.due("of another SUM: HEARD", other.machineOf(1, Ask.HEARD), 1);
        MeshField below = heardThenMixed(6, own, false);
        CHECK.due("of a NUMBER below: HEARD", below.machineOf(1, Ask.HEARD), 1);
        MeshField above = heardThenMixed(4, own, false);
        CHECK.due("of a NUMBER above: NUMBER", above.machineOf(1, Ask.NUMBER), 5);
        CHECK.due("of a NUMBER above: HEARD", above.machineOf(1, Ask.HEARD), 1);
    }

    /** Machine 0 hears a like TELL of machine 1 and then one of a greater NUMBER, of machine 2. */
    private static void hearLikeAndGreater(MeshField x, int like, int greater) {
        x.hears(0, 1, 0);
        x.hears(0, 2, 0);
        Tellers.goTo(x, like + 1);
        CHECK.due("HEARD ahead", x.machineOf(0, Ask.HEARD), 1);
        Tellers.goTo(x, greater);
        CHECK.due("HEARD just ahead", x.machineOf(0, Ask.HEARD), 1);
        x.ticks(1);
    }

    private static void stirredHasHeardNone() {
        CHECK.sentence("STIRRED: if its SPAN is above LOW, it is LOW, and one BEGINS (BEGINNING one: HEARD 0)");
        MeshField x = Tellers.grown(9, 1, 95, 70);
        x.hears(0, 1, 0);
        Tellers.goTo(x, 71);
        CHECK.due("HEARD ahead", x.machineOf(0, Ask.HEARD), 1);
        Tellers.load(x, 0, 5, 16);
        CHECK.due("by load(): SPAN", x.machineOf(0, Ask.SPAN), 32);
        CHECK.due("by load(): HEARD", x.machineOf(0, Ask.HEARD), 0);
        MeshField y = Tellers.grown(9, 1, 95, 70);
        y.hears(0, 1, 0);
        Tellers.goTo(y, 71);
        // Loading stirs it, so that it tells once more, of 5, ahead of the end of machine 0's interval.
        y.seed(Dice.seedOf(16, 0));
        Tellers.load(y, 1, 5, 16);
        Tellers.goTo(y, 72 + 16);
        CHECK.due("HEARD just ahead of the letter", y.machineOf(0, Ask.HEARD), 1);
        CHECK.due("SPAN just ahead of the letter", y.machineOf(0, Ask.SPAN), 64);
        y.ticks(1);
        CHECK.due("by a letter: SPAN", y.machineOf(0, Ask.SPAN), 32);
        CHECK.due("by a letter: HEARD", y.machineOf(0, Ask.HEARD), 0);
    }

    private static void stirredAtLowIsLeft() {
        CHECK.sentence("STIRRED: if its SPAN is above LOW; else nothing.");
        MeshField x = Tellers.calm(9, 1, 63, 35, 40);
        Tellers.load(x, 2, 5, 16);
        hearLikeAndGreater(x, 35, 40);
        CHECK.due("by a letter: HEARD stays", x.machineOf(0, Ask.HEARD), 1);
        CHECK.due("by a letter: TELLS-AT stays", x.machineOf(0, Ask.TELLS_AT), 63);
        CHECK.due("by a letter: BEGAN stays", x.machineOf(0, Ask.BEGAN), 0);
        Tellers.load(x, 0, 6, 16, 17);
        CHECK.due("by load(): HEARD stays", x.machineOf(0, Ask.HEARD), 1);
        CHECK.due("by load(): TELLS-AT stays", x.machineOf(0, Ask.TELLS_AT), 63);
        x.lie(0, 1, 1);
        CHECK.due("by lie(), nothing comes: HEARD stays", x.machineOf(0, Ask.HEARD), 1);
    }

    private static void dataAtStays() {
        CHECK.sentence("DATA-AT: a tick or none. (what it hears and tells meanwhile leaves it)");
        MeshField x = Tellers.calm(9, 32, 42, 33, 35, 37, 39);
        Tellers.load(x, 0, 5, 16);
        Tellers.load(x, 2, 5, 16);
        Tellers.load(x, 3, 6, 16);
        for (int i = 1; i < 5; i++) {
            x.hears(0, i, 0);
        }
        x.ticks(33);
        x.seed(Dice.seedOf(100, Dice.ANY, 32, 31));
        x.ticks(1);
        CHECK.due("after a lesser one", x.machineOf(0, Ask.DATA_AT), 33 + 1 + 31);
        x.ticks(2);
        CHECK.due("after a like one: HEARD", x.machineOf(0, Ask.HEARD), 1);
        CHECK.due("after a like one", x.machineOf(0, Ask.DATA_AT), 65);
        x.ticks(2);
        CHECK.due("after a greater one", x.machineOf(0, Ask.DATA_AT), 65);
        x.ticks(2);
        CHECK.due("after a lesser one again", x.machineOf(0, Ask.DATA_AT), 65);
        x.ticks(3);
        CHECK.due("after its own: TELLS", x.machineOf(0, Ask.TELLS), 1);
        CHECK.due("after its own", x.machineOf(0, Ask.DATA_AT), 65);
        x.ticks(22);
        CHECK.due("in the next interval: BEGAN", x.machineOf(0, Ask.BEGAN), 64);
        CHECK.due("in the next interval", x.machineOf(0, Ask.DATA_AT), 65);
        x.ticks(1);
        CHECK.due("at its tick: MIXES", x.machineOf(0, Ask.MIXES), 1);
    }

    /** At tick 71: machines 1 and 2, of NUMBER 0 with a TURN, told at 70; machine 0, of 5, has SPAN 64 and BEGAN 32. */
    private static MeshField toldAt70(int oddsOfOne, int oddsOfTwo) {
        MeshField x = new MeshField();
        x.rules(9, 32, 64, 32);
        x.machine();
        Tellers.load(x, 0, 5, 16);
        x.machine();
        x.machine();
        x.ticks(31);
        x.seed(Dice.seedOf(32, 31, 32, 6, 32, 6));
        x.ticks(1);
        x.turn(1, 9, 500);
        x.turn(2, 8, 400);
        x.hears(0, 1, oddsOfOne);
        x.hears(0, 2, oddsOfTwo);
        Tellers.goTo(x, 71);
        CHECK.due("one told", x.machineOf(1, Ask.TELLS), 2);
        CHECK.due("the other told", x.machineOf(2, Ask.TELLS), 2);
        return x;
    }

    private static void nothingWasHeard(MeshField x, int lost, int spoilt) {
        int[] what = {Ask.SPAN, Ask.BEGAN, Ask.TELLS_AT, Ask.HEARD, Ask.DATA_AT, Ask.TURN, Ask.TURN_TICK, Ask.LOST, Ask.SPOILT};
        int[] want = {64, 32, 95, 0, -1, 0, 0, lost, spoilt};
        for (int i = 0; i < what.length; i++) {
            CHECK.due("lost " + lost + ", SPOILT " + spoilt + ": machineOf(0, " + what[i] + ")", x.machineOf(0, what[i]), want[i]);
        }
    }

    private static void lostLettersDoNothing() {
        CHECK.sentence("a DRAW below 100, below ODDS: it is lost.");
        nothingWasHeard(toldAt70(100, MeshField.NONE), 1, 0);
        nothingWasHeard(toldAt70(MeshField.NONE, 100), 1, 0);
        MeshField heard = toldAt70(0, MeshField.NONE);
        CHECK.due("if it isn't lost: SPAN", heard.machineOf(0, Ask.SPAN), 32);
        CHECK.due("if it isn't lost: TURN", heard.machineOf(0, Ask.TURN), 9);
        CHECK.due("if it isn't lost: DATA-AT", heard.machineOf(0, Ask.DATA_AT) != -1, true);
    }

    private static void spoiltLettersDoNothing() {
        CHECK.sentence("if they are two or more, it hears none (one SPOILT more)");
        nothingWasHeard(toldAt70(0, 0), 0, 1);
        nothingWasHeard(toldAt70(100, 0), 0, 1);
        nothingWasHeard(toldAt70(0, 100), 0, 1);
        nothingWasHeard(toldAt70(MeshField.NONE, MeshField.NONE), 0, 0);
    }

    private static void turnBelowTheKeptNumberIsTaken() {
        CHECK.sentence("TURN: who hears one of a greater NUMBER takes it. (whatever NUMBER it KEEPS itself)");
        int[] kept = {0, 6, 7, 8, 9999};
        for (int number : kept) {
            MeshField x = Tellers.calm(9, 1, 33, 63);
            x.hears(1, 0, 0);
            if (number > 0) {
                Tellers.load(x, 1, number, 16);
            }
            x.turn(0, 7, 200);
            x.ticks(34);
            CHECK.due("it KEEPS " + number + ": TURN", x.machineOf(1, Ask.TURN), 7);
            CHECK.due("it KEEPS " + number + ": tick", x.machineOf(1, Ask.TURN_TICK), 200);
        }
    }

    private static void turnDoesNotStir() {
        CHECK.sentence("TURN: told at a machine, and carried by its letters (of its own NUMBER and RANK: HEARD one more)");
        MeshField x = Tellers.grown(9, 1, 95, 70);
        x.hears(0, 1, 0);
        x.turn(1, 7, 200);
        CHECK.due("told: SPAN", x.machineOf(1, Ask.SPAN), 64);
        CHECK.due("told: TELLS-AT", x.machineOf(1, Ask.TELLS_AT), 70);
        Tellers.goTo(x, 71);
        CHECK.due("heard: TURN", x.machineOf(0, Ask.TURN), 7);
        CHECK.due("heard: HEARD", x.machineOf(0, Ask.HEARD), 1);
        CHECK.due("heard: SPAN", x.machineOf(0, Ask.SPAN), 64);
        CHECK.due("heard: BEGAN", x.machineOf(0, Ask.BEGAN), 32);
        CHECK.due("heard: DATA-AT", x.machineOf(0, Ask.DATA_AT), -1);
    }

    private static void turnIsRunAtItsTickAlone() {
        CHECK.sentence("RUNS it from the end of the tick ahead of the TURN's tick on (a TURN that was heard)");
        MeshField x = Tellers.calm(9, 1, 33, 63);
        x.hears(1, 0, 0);
        Tellers.load(x, 0, 5, 16);
        Tellers.load(x, 1, 5, 16);
        x.turn(0, 5, 50);
        x.ticks(34);
        CHECK.due("heard: TURN", x.machineOf(1, Ask.TURN), 5);
        CHECK.due("heard: RUNS", x.machineOf(1, Ask.RUNS), 0);
        x.ticks(15);
        CHECK.due("at 49: RUNS", x.machineOf(1, Ask.RUNS), 0);
        x.ticks(1);
        CHECK.due("at 50: RUNS", x.machineOf(1, Ask.RUNS), 5);
    }

    private static void turnStaysWhenItRuns() {
        CHECK.sentence("TURN: a NUMBER and a tick: carried by its letters (of one that RUNS it too)");
        MeshField x = Tellers.calm(9, 1, 40, 63);
        x.hears(1, 0, 0);
        Tellers.load(x, 0, 5, 16);
        x.turn(0, 5, 0);
        x.ticks(10);
        CHECK.due("RUNS", x.machineOf(0, Ask.RUNS), 5);
        CHECK.due("TURN", x.machineOf(0, Ask.TURN), 5);
        CHECK.due("no other of its NUMBER", x.turn(0, 5, 9), false);
        x.ticks(31);
        CHECK.due("carried then", x.machineOf(1, Ask.TURN), 5);
    }

    /** At the tick of its MIX, machine 1 takes the program 8 of another one; its own past stays. */
    private static void newProgramLeavesTheRest() {
        CHECK.sentence("A MIX of a NUMBER above its own: it KEEPS that PROGRAM from now on, without BASIS");
        MeshField x = Rich.field();
        for (int i = 2; i < 5; i++) {
            x.hears(1, i, MeshField.NONE);
        }
        CHECK.due("the two PIECES told", x.load(0, 8), 2);
        int[] left = {Ask.RUNS, Ask.TELLS, Ask.MIXES, Ask.SPOILT, Ask.LOST, Ask.LIES, Ask.TURN, Ask.TURN_TICK};
        int[] before = new int[left.length];
        for (int tries = 0; tries < 40 && x.machineOf(1, Ask.NUMBER) != 8; tries++) {
            for (int i = 0; i < left.length; i++) {
                before[i] = x.machineOf(1, left[i]);
            }
            x.ticks(1);
        }
        CHECK.due("it KEEPS 8", x.machineOf(1, Ask.NUMBER), 8);
        CHECK.due("PIECES", x.machineOf(1, Ask.PIECES), 2);
        CHECK.due("RANK", x.machineOf(1, Ask.RANK), 1);
        CHECK.due("SUM", x.sum(1), Ask.sumOf(5, 6));
        for (int i = 0; i < left.length; i++) {
            CHECK.due("machineOf(1, " + left[i] + ") stays", x.machineOf(1, left[i]), before[i]);
            CHECK.due("machineOf(1, " + left[i] + ") is to be seen", before[i] != 0, true);
        }
    }
}
