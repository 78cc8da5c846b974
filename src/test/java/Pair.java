/**
 * Fields whose letters come at ticks that are known without drawing: with LOW and HIGH 2 a machine tells
 * one tick after each beginning, and a SPAN is never above LOW, so being stirred changes nothing.
 */
final class Pair {
    private Pair() {
    }

    /** At tick 1: machine 0 tells at odd ticks, machine 1 at even ones; data come at the next tick. */
    static MeshField steady() {
        return steady(9, 1);
    }

    static MeshField steady(int few, int wait) {
        MeshField x = new MeshField();
        x.rules(few, 2, 2, wait);
        x.machine();
        x.ticks(1);
        x.machine();
        return x;
    }
}
