/** The run of calls that README.md tells answers as it says there. */
public final class ReadmeTest {
    private static final Check CHECK = new Check();

    public static void main(String[] args) {
        MeshField field = new MeshField();
        field.seed(7);
        CHECK.due("rules(2, 4, 64, 6)", field.rules(2, 4, 64, 6), true);
        int a = field.machine();
        int b = field.machine();
        CHECK.due("machine()", a, 0);
        CHECK.due("machine() again", b, 1);
        CHECK.due("hears(a, b, 10)", field.hears(a, b, 10), true);
        CHECK.due("hears(b, a, 10)", field.hears(b, a, 10), true);
        CHECK.due("piece(7)", field.piece(7), 1);
        CHECK.due("piece(9)", field.piece(9), 2);
        CHECK.due("load(a, 5)", field.load(a, 5), 2);
        CHECK.due("turn(a, 5, 100)", field.turn(a, 5, 100), true);
        CHECK.due("ticks(150)", field.ticks(150), 150);
        CHECK.due("machineOf(b, 4)", field.machineOf(b, 4), 5);
        CHECK.due("about(3)", field.about(3), 2);
        CHECK.end();
    }
}
