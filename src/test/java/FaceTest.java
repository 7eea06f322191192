import java.lang.reflect.Constructor;
import java.lang.reflect.Executable;
import java.lang.reflect.Field;
import java.lang.reflect.Method;
import java.lang.reflect.Modifier;
import java.util.ArrayList;
import java.util.List;
import java.util.Set;
import java.util.TreeSet;

/** The public face of the document: all of it, and nothing besides that others could see. */
public final class FaceTest {
    private static final String[] METHODS = {
        "public int text(long w) throws IllegalArgumentException, IllegalStateException;",
        "public int clear();",
        "public int parse() throws IllegalArgumentException;",
        "public int where();",
        "public int choose(int what, int n) throws IllegalArgumentException;",
        "public int input(int v) throws IllegalStateException;",
        "public int forget();",
        "public int run(int limit) throws IllegalArgumentException, IllegalStateException,"
            + " IndexOutOfBoundsException, ArithmeticException, UnsupportedOperationException;",
        "public int ran(int what) throws IllegalArgumentException;",
        "public int analyse() throws IllegalStateException;",
        "public int warning(int k) throws IndexOutOfBoundsException;",
        "public int left(int k, int what) throws IllegalArgumentException, IndexOutOfBoundsException,"
            + " IllegalStateException, UnsupportedOperationException;",
        "public int count(int what) throws IllegalArgumentException;",
    };

    public static void main(String[] args) {
        classItself();
        constructors();
        methods();
        namesOfPrivateOnes();
        classesInside();
        Checks.end();
    }

    private static void classItself() {
        Checks.sentence("public final class AlarmForge {");
        Checks.same("modifiers", Modifier.toString(AlarmForge.class.getModifiers()), "public final");
        Checks.same("no package", AlarmForge.class.getPackageName(), "");
        Checks.same("what it extends", AlarmForge.class.getSuperclass(), Object.class);
        Checks.same("what it implements", AlarmForge.class.getInterfaces().length, 0);
        for (Field field : AlarmForge.class.getDeclaredFields()) {
            Checks.same("private: " + field.getName(), Modifier.isPrivate(field.getModifiers()), true);
        }
    }

    private static void constructors() {
        Checks.sentence("public AlarmForge();");
        Constructor<?>[] all = AlarmForge.class.getDeclaredConstructors();
        Checks.same("how many", all.length, 1);
        Checks.same("the one", "public AlarmForge" + restOf(all[0]), "public AlarmForge();");
    }

    /** Parameters by their types alone, for their names are not kept; then what is thrown. */
    private static String restOf(Executable executable) {
        List<String> types = new ArrayList<>();
        for (Class<?> type : executable.getParameterTypes()) {
            types.add(type.getSimpleName());
        }
        List<String> thrown = new ArrayList<>();
        for (Class<?> type : executable.getExceptionTypes()) {
            thrown.add(type.getSimpleName());
        }
        return "(" + String.join(", ", types) + ")"
            + (thrown.isEmpty() ? "" : " throws " + String.join(", ", thrown)) + ";";
    }

    private static void methods() {
        Set<String> seen = new TreeSet<>();
        for (Method method : AlarmForge.class.getDeclaredMethods()) {
            if (!Modifier.isPrivate(method.getModifiers())) {
                seen.add(Modifier.toString(method.getModifiers()) + " " + method.getReturnType() + " "
                    + method.getName() + restOf(method));
            }
        }
        for (String line : METHODS) {
            Checks.sentence(line);
            Checks.same("such a method", seen.remove(line.replaceAll("(int|long) \\w+([,)])", "$1$2")), true);
        }
        Checks.sentence("Nothing is promised beyond the answers and state changes described above");
        Checks.same("others that can be seen", seen, Set.of());
    }

    private static void namesOfPrivateOnes() {
        Set<String> names = new TreeSet<>();
        for (String line : METHODS) {
            names.add(line.replaceAll("public int (\\w+).*", "$1"));
        }
        for (Method method : AlarmForge.class.getDeclaredMethods()) {
            boolean isPrivate = Modifier.isPrivate(method.getModifiers());
            Checks.same("a name of the face: " + method.getName(), names.contains(method.getName()), !isPrivate);
        }
    }

    private static void classesInside() {
        for (Class<?> inside : AlarmForge.class.getDeclaredClasses()) {
            int modifiers = inside.getModifiers();
            Checks.same("static, seen by none: " + inside.getSimpleName(), Modifier.isStatic(modifiers)
                && !Modifier.isPublic(modifiers) && !Modifier.isProtected(modifiers), true);
        }
    }
}
