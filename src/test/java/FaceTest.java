import java.lang.reflect.Constructor;
import java.lang.reflect.Field;
import java.lang.reflect.Method;
import java.lang.reflect.Modifier;
import java.util.Arrays;
import java.util.HashSet;
import java.util.Set;
import java.util.TreeSet;

/** The public face stands as the document tells it, and nothing else is to be seen. */
public final class FaceTest {
    private static final String[] METHODS = {
        "int weight(int,int)", "int limit(int,int)", "int ranked(int)", "int rule(int,int)", "long used(int)",
        "int feed(int)", "int job(int,int,int,int)", "int off(int)", "int of(int,int)", "int arm(int,int,int)",
        "int line(int)", "int rank(int,int)", "int hold(int,int)", "int text(int,int)",
        "int keep(int,int,int,int)", "int every(int,int,int,int,int,int)", "int free(int)", "int step(int)",
        "int pass()", "int holder(int)", "int promised(int,int)", "int foretell(int)", "int plan(int)",
        "int byRule(int,int,int)", "int shrunk(int)", "int moves(int)", "int together(int,int)",
        "int gap(int,int,int)", "int orders(int,int)", "int costs(int,int,int)", "int earliest(int)",
        "int holes(int,int,int)", "long led(int)", "int chart(int,int)", "int event(int,int)", "int started(int)",
        "int image()", "int back()", "int count(int)"};

    private static String told(Method m) {
        StringBuilder s = new StringBuilder(m.getReturnType().getName()).append(' ').append(m.getName()).append('(');
        for (int i = 0; i < m.getParameterCount(); i++) {
            s.append(i > 0 ? "," : "").append(m.getParameterTypes()[i].getName());
        }
        return s.append(')').toString();
    }

    public static void main(String[] args) {
        Checks checks = new Checks("FaceTest");
        Class<?> face = GangColumns.class;
        checks.about("face");
        checks.holds("public and final", Modifier.isPublic(face.getModifiers()) && Modifier.isFinal(face.getModifiers()));
        Set<String> methods = new TreeSet<>();
        Set<String> names = new HashSet<>();
        for (Method m : face.getDeclaredMethods()) {
            if (!Modifier.isPrivate(m.getModifiers())) {
                methods.add(told(m));
                names.add(m.getName());
                checks.holds(m + " is public and of the object", m.getModifiers() == Modifier.PUBLIC);
            }
        }
        checks.holds("the methods are those of the document: " + methods,
            methods.equals(new TreeSet<>(Arrays.asList(METHODS))));
        for (Method m : face.getDeclaredMethods()) {
            checks.holds(m + " bears no public name", !Modifier.isPrivate(m.getModifiers()) || !names.contains(m.getName()));
        }
        Set<String> constants = new TreeSet<>();
        for (Field f : face.getDeclaredFields()) {
            if (!Modifier.isPrivate(f.getModifiers())) {
                constants.add(f.getName());
            }
        }
        checks.holds("the constants are those of the document: " + constants,
            constants.equals(new TreeSet<>(Arrays.asList("BAD", "NOT", "FULL", "STATE"))));
        checks.due("BAD", GangColumns.BAD, -1);
        checks.due("NOT", GangColumns.NOT, -2);
        checks.due("FULL", GangColumns.FULL, -3);
        checks.due("STATE", GangColumns.STATE, -5);
        Constructor<?>[] constructors = face.getDeclaredConstructors();
        checks.holds("one public constructor of nothing", constructors.length == 1
            && constructors[0].getParameterCount() == 0 && Modifier.isPublic(constructors[0].getModifiers()));
        for (Class<?> inside : face.getDeclaredClasses()) {
            checks.holds(inside + " is private and static", Modifier.isPrivate(inside.getModifiers())
                && Modifier.isStatic(inside.getModifiers()));
        }
        checks.end();
    }
}
