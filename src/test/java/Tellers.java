/**
 * Fields whose machines tell at ticks that a test chooses, once each, and at which nothing else happens: with a SPAN
 * as wide as the run, no interval ends within it.
 */
final class Tellers {
    private Tellers() {
    }

    /** At tick 0: machine i tells at the i-th tick (32 .. 63); SPAN is LOW, so that being stirred changes nothing. */
    static MeshField calm(int few, int wait, int... tellsAt) {
        MeshField x = new MeshField();
        x.rules(few, 64, 64, wait);
        for (int at : tellsAt) {
            x.seed(Dice.seedOf(32, at - 32));
            x.machine();
        }
        return x;
    }

    /** At tick 32: machine i tells at the i-th tick (64 .. 95); SPAN is 64, LOW is 32, all BEGAN at 32. */
    static MeshField grown(int few, int wait, int... tellsAt) {
        MeshField x = new MeshField();
        x.rules(few, 32, 64, wait);
        int[] drawn = new int[2 * tellsAt.length];
        for (int i = 0; i < tellsAt.length; i++) {
            x.machine();
            drawn[2 * i] = 32;
            drawn[2 * i + 1] = tellsAt[i] - 64;
        }
        x.ticks(31);
        x.seed(Dice.seedOf(drawn));
        x.ticks(1);
        return x;
    }

    /** The machine KEEPS these PIECES as NUMBER. */
    static void load(MeshField x, int machine, int number, int... data) {
        Ask.pieces(x, data);
        x.load(machine, number);
    }

    /** The MIX with the least HEAD goes; at tick 0 of a calm field it tells at that tick again. */
    static void tear(MeshField x, int machine, int tellsAt) {
        x.seed(Dice.seedOf(32, tellsAt - 32));
        x.cut(machine, true);
    }

    /** Goes on to a tick, in as many calls as it needs. */
    static void goTo(MeshField x, int tick) {
        while (x.about(Ask.TICK) < tick) {
            x.ticks(Math.min(200, tick - x.about(Ask.TICK)));
        }
    }
}
