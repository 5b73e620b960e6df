import java.lang.reflect.Constructor;
import java.lang.reflect.Field;
import java.lang.reflect.Method;
import java.lang.reflect.Modifier;
import java.util.Set;
import java.util.TreeSet;

/** The class has the document's constants, constructor and methods, and no other that can be seen. */
public final class FaceTest {
    private static final String[] METHODS = {
        "int row 3", "int set 3", "int copy 5", "int drop 1", "int feed 1", "int house 0", "int fault 0",
        "int undo 0", "int breathe 1", "int speak 3", "int tap 2", "int dent 2", "int hush 0", "int pipe 2",
        "int inside 2", "int horn 2", "int ahead 3", "int first 1", "int hearers 1", "int quiet 0",
        "int shuts 4", "int opens 4", "int loud 3", "int say 4", "int round 1", "int way 2", "int who 6",
        "int spoke 5", "int cold 1", "long stuck 4", "int drawn 3", "int image 1", "int restore 1",
        "int kind 1", "int as 2", "int ask 2", "int trace 1", "int count 1", "int status 0",
    };

    public static void main(String[] args) {
        int wanted = Modifier.PUBLIC | Modifier.FINAL;
        Due.due("public and final", EarTrumpets.class.getModifiers() & wanted, wanted);
        Due.same("methods", methods().toString(), new TreeSet<>(Set.of(METHODS)).toString());
        Due.same("constants", fields().toString(), "[BAD, FULL, NONE, STATE]");
        Constructor<?>[] all = EarTrumpets.class.getDeclaredConstructors();
        Due.due("constructors", all.length, 1);
        Due.due("its arguments", all[0].getParameterCount(), 0);
        Due.due("public", all[0].getModifiers(), Modifier.PUBLIC);
        Due.due("NONE", EarTrumpets.NONE, -1000000);
        Due.due("BAD", EarTrumpets.BAD, -1000001);
        Due.due("STATE", EarTrumpets.STATE, -1000002);
        Due.due("FULL", EarTrumpets.FULL, -1000003);
        for (Class<?> inside : EarTrumpets.class.getDeclaredClasses()) {
            boolean isStatic = Modifier.isStatic(inside.getModifiers());
            boolean isSeen = (inside.getModifiers() & (Modifier.PUBLIC | Modifier.PROTECTED)) != 0;
            Due.due(inside.getName(), isStatic && !isSeen ? 1 : 0, 1);
        }
        Due.end();
    }

    private static Set<String> methods() {
        Set<String> all = new TreeSet<>();
        for (Method m : EarTrumpets.class.getDeclaredMethods()) {
            if (!Modifier.isPrivate(m.getModifiers())) {
                all.add(m.getReturnType() + " " + m.getName() + " " + m.getParameterCount());
            }
        }
        return all;
    }

    private static Set<String> fields() {
        Set<String> all = new TreeSet<>();
        for (Field f : EarTrumpets.class.getDeclaredFields()) {
            if (!Modifier.isPrivate(f.getModifiers())) {
                all.add(f.getName());
            }
        }
        return all;
    }
}
