import java.lang.reflect.Constructor;
import java.lang.reflect.Field;
import java.lang.reflect.Method;
import java.lang.reflect.Modifier;
import java.util.Set;
import java.util.TreeSet;

/** The public face is the document's, no more and no less. */
public final class FaceTest {
    private static final Check CHECK = new Check();
    private static final Set<String> FACE = Set.of(
        "void seed(int)", "boolean rules(int,int,int,int)", "int machine()", "boolean hears(int,int,int)",
        "int piece(int)", "int load(int,int)", "boolean turn(int,int,int)", "boolean lie(int,int,int)",
        "boolean cut(int,boolean)", "int ticks(int)", "int machineOf(int,int)", "int data(int,int)",
        "int sum(int)", "int about(int)");

    public static void main(String[] args) {
        Class<?> c = MeshField.class;
        CHECK.due("public final", c.getModifiers() == (Modifier.PUBLIC | Modifier.FINAL), true);
        methods(c);
        fields(c);
        Constructor<?>[] makers = c.getDeclaredConstructors();
        CHECK.due("one constructor", makers.length, 1);
        CHECK.due("it is public and takes nothing",
            Modifier.isPublic(makers[0].getModifiers()) && makers[0].getParameterCount() == 0, true);
        nested(c);
        CHECK.end();
    }

    private static void methods(Class<?> c) {
        Set<String> seen = new TreeSet<>();
        for (Method m : c.getDeclaredMethods()) {
            if (m.isSynthetic() || Modifier.isPrivate(m.getModifiers())) {
                continue;
            }
            CHECK.due(m.getName() + " is public and not static", m.getModifiers(), Modifier.PUBLIC);
            StringBuilder text = new StringBuilder(m.getReturnType() + " " + m.getName() + "(");
            for (Class<?> p : m.getParameterTypes()) {
                text.append(text.charAt(text.length() - 1) == '(' ? "" : ",").append(p);
            }
            seen.add(text.append(')').toString());
        }
        CHECK.due("the methods are " + seen, seen.equals(FACE), true);
    }

    private static void fields(Class<?> c) {
        for (Field f : c.getDeclaredFields()) {
            if (f.getName().equals("NONE")) {
                CHECK.due("NONE is a public constant", f.getModifiers(), Modifier.PUBLIC | Modifier.STATIC | Modifier.FINAL);
            } else {
                CHECK.due(f.getName() + " is private", Modifier.isPrivate(f.getModifiers()), true);
            }
        }
    }

    private static void nested(Class<?> c) {
        Set<String> names = new TreeSet<>();
        for (Method m : c.getDeclaredMethods()) {
            if (Modifier.isPublic(m.getModifiers())) {
                names.add(m.getName());
            }
        }
        CHECK.due("at most twelve classes", c.getDeclaredClasses().length < 12, true);
        for (Class<?> n : c.getDeclaredClasses()) {
            CHECK.due(n + " is static", Modifier.isStatic(n.getModifiers()), true);
            CHECK.due(n + " isn't public", Modifier.isPublic(n.getModifiers()), false);
            int own = 0;
            for (Field f : n.getDeclaredFields()) {
                own += Modifier.isStatic(f.getModifiers()) ? 0 : 1;
            }
            CHECK.due(n + " has at most twenty fields", own <= 20, true);
            for (Method m : n.getDeclaredMethods()) {
                CHECK.due(n + "." + m.getName() + " bears no public name", names.contains(m.getName()), false);
            }
        }
        for (Method m : c.getDeclaredMethods()) {
            boolean hidden = Modifier.isPrivate(m.getModifiers());
            CHECK.due(m.getName() + " is no public name", hidden && names.contains(m.getName()), false);
        }
    }
}
