import java.lang.reflect.Constructor;
import java.lang.reflect.Field;
import java.lang.reflect.Method;
import java.lang.reflect.Modifier;
import java.util.Arrays;
import java.util.HashSet;
import java.util.Set;
import java.util.TreeSet;

/** The public face, and rules 1 and 5 of LANGUAGE.md as far as they can be seen in the class. */
public final class FaceTest {
    private static final String[] METHODS = {
        "int add(int, int, int)", "boolean remove(int, int, int)", "int removeAll(int, int, int, int)",
        "boolean holds(int, int, int)", "int open(int, int, int, int)", "int next(int)",
        "int seek(int, int, int, int)", "int part(int, int)", "boolean close(int)",
        "int many(int, int, int, int)", "int at(int, int, int)", "int before(int, int, int, int)",
        "int different(int)", "int chains(int, int)", "int far(int, int, int)", "int reached(int, int)",
        "int size()", "int changes()"};

    private FaceTest() {}

    public static void main(String[] args) {
        constants();
        methods();
        constructors();
        fields();
        classesInside();
        Check.end();
    }

    private static void constants() {
        Check.due("NONE", TripleTrees.NONE, -1);
        Check.due("FULL", TripleTrees.FULL, -2);
        Check.due("STALE", TripleTrees.STALE, -3);
    }

    private static String signature(Method m) {
        StringBuilder text = new StringBuilder(m.getReturnType().getName()).append(' ').append(m.getName());
        String types = Arrays.toString(Arrays.stream(m.getParameterTypes()).map(Class::getName).toArray());
        return text.append('(').append(types, 1, types.length() - 1).append(')').toString();
    }

    private static void methods() {
        Set<String> open = new TreeSet<>();
        Set<String> openNames = new HashSet<>();
        for (Method m : TripleTrees.class.getDeclaredMethods()) {
            if (!Modifier.isPrivate(m.getModifiers())) {
                Check.due(m + " is public", Modifier.isPublic(m.getModifiers()), true);
                open.add(signature(m));
                openNames.add(m.getName());
            }
        }
        Check.due("the methods " + open, open.equals(new TreeSet<>(Arrays.asList(METHODS))), true);
        for (Class<?> c : classes()) {
            for (Method m : c.getDeclaredMethods()) {
                boolean another = Modifier.isPrivate(m.getModifiers()) || c != TripleTrees.class;
                Check.due(m + " bears a public one's name", another && openNames.contains(m.getName()), false);
                Check.due(m + " has over seven parameters", m.getParameterCount() > 7, false);
            }
        }
    }

    private static void constructors() {
        Constructor<?>[] all = TripleTrees.class.getDeclaredConstructors();
        Check.due("constructors", all.length, 1);
        Check.due("the constructor is public", Modifier.isPublic(all[0].getModifiers()), true);
        Check.due("the constructor's parameters", all[0].getParameterCount(), 0);
        Check.due("the class is public", Modifier.isPublic(TripleTrees.class.getModifiers()), true);
        Check.due("the class is final", Modifier.isFinal(TripleTrees.class.getModifiers()), true);
    }

    private static void fields() {
        Set<String> open = new TreeSet<>();
        for (Field f : TripleTrees.class.getDeclaredFields()) {
            if (!Modifier.isPrivate(f.getModifiers())) {
                open.add(Modifier.toString(f.getModifiers()) + " " + f.getType().getName() + " " + f.getName());
            }
        }
        Set<String> due = new TreeSet<>(Arrays.asList("public static final int NONE",
            "public static final int FULL", "public static final int STALE"));
        Check.due("the constants " + open, open.equals(due), true);
        for (Class<?> c : classes()) {
            for (Field f : c.getDeclaredFields()) {
                int is = f.getModifiers();
                Check.due(f + " is static and not final", Modifier.isStatic(is) && !Modifier.isFinal(is), false);
            }
        }
    }

    private static void classesInside() {
        for (Class<?> c : TripleTrees.class.getDeclaredClasses()) {
            int is = c.getModifiers();
            Check.due(c + " is static", Modifier.isStatic(is), true);
            Check.due(c + " is public or protected", Modifier.isPublic(is) || Modifier.isProtected(is), false);
        }
    }

    private static Set<Class<?>> classes() {
        Set<Class<?>> all = new HashSet<>(Arrays.asList(TripleTrees.class.getDeclaredClasses()));
        all.add(TripleTrees.class);
        return all;
    }
}
