/**
 * A refused call must leave a field as it was: all that can be asked of a field that was called so is laid
 * beside a field that was not, at once and after each of some ways in which they may go on.
 */
final class Twins {
    /** Calls that a field is told. */
    interface Telling {
        void tell(MeshField x);
    }

    // Each of them shows something else that is not asked for: the odds, the draws, the rules, the pieces told.
    private static final Telling[] FUTURES = {
        x -> { },
        MeshField::machine,
        x -> x.ticks(1),
        x -> x.ticks(200),
        x -> x.load(0, 9999),
        x -> {
            x.piece(-5);
            x.load(0, 9998);
            x.turn(0, 9998, 60);
            x.ticks(150);
        },
        Fields::grow,
    };

    private Twins() {
    }

    static void refused(Check check, String call, Telling past, Telling refused) {
        for (int i = 0; i < FUTURES.length; i++) {
            Telling future = FUTURES[i];
            Telling left = x -> {
                past.tell(x);
                future.tell(x);
            };
            Telling called = x -> {
                past.tell(x);
                refused.tell(x);
                future.tell(x);
            };
            alike(check, call + " changes nothing, future " + i, called, left);
        }
    }

    private static void alike(Check check, String name, Telling called, Telling left) {
        for (int i = 0; i < 12; i++) {
            // An object is promised for 512 calls alone, so each machine is asked in objects of its own.
            MeshField x = new MeshField();
            MeshField y = new MeshField();
            called.tell(x);
            left.tell(y);
            for (int what = 0; what < 17; what++) {
                check.due(name + ": machineOf(" + i + ", " + what + ")", x.machineOf(i, what), y.machineOf(i, what));
            }
            for (int k = 0; k < 12; k++) {
                check.due(name + ": MASK " + k + " of " + i, x.machineOf(i, Ask.MASK + k), y.machineOf(i, Ask.MASK + k));
                check.due(name + ": data(" + i + ", " + k + ")", x.data(i, k), y.data(i, k));
            }
            check.due(name + ": sum(" + i + ")", x.sum(i), y.sum(i));
            for (int what = 0; what < 6; what++) {
                check.due(name + ": about(" + what + ")", x.about(what), y.about(what));
            }
        }
    }
}
