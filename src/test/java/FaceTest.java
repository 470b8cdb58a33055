import java.lang.reflect.Constructor;
import java.lang.reflect.Field;
import java.lang.reflect.Method;
import java.lang.reflect.Modifier;
import java.util.ArrayList;
import java.util.Arrays;
import java.util.List;
import java.util.Set;
import java.util.TreeSet;

/** The face: what the document lists, and no other member that can be seen from outside. */
public final class FaceTest {
    private static final String INDEX = " throws IndexOutOfBoundsException";
    private static final String ILLEGAL = " throws IllegalArgumentException";
    private static final String BOTH = INDEX + ", IllegalArgumentException";
    private static final String[] FACE = {
        "int net(boolean)",
        "int point(int, long, long, long)" + BOTH,
        "boolean gap(long)" + ILLEGAL,
        "int run(long)" + ILLEGAL,
        "int probe(int)",
        "boolean proved()",
        "int out(int)",
        "boolean part(int, int, long, long)" + BOTH,
        "long span(int, int, int, int)" + INDEX + ", IllegalStateException",
        "int guard(int, int, int)" + INDEX,
        "boolean fail(int)" + INDEX,
        "int suspects()",
        "int suspect(int, int)" + INDEX,
        "int faults(int)" + INDEX,
        "int fly(int)",
        "long seconds()",
        "boolean force(int, long)" + BOTH,
        "long forces()",
        "int text(int)" + INDEX,
        "int order(int)",
    };

    public static void main(String[] args) {
        Check check = new Check();
        Class<?> type = ProbeChoice.class;
        check.due("1: public and final", Modifier.PUBLIC | Modifier.FINAL, type::getModifiers);
        check.due("1: methods", new TreeSet<>(Arrays.asList(FACE)), () -> methodsOf(type));
        check.due("1: fields", "[NONE]", () -> fieldsOf(type));
        check.due("1: constructors", "[public ProbeChoice()]", () -> constructorsOf(type));
        check.due("1: a private method with a public one's name", "[]", () -> namesakesOf(type));
        check.due("1: classes inside that are not static", "[]", () -> notStaticOf(type));
        check.end();
    }

    private static Set<String> methodsOf(Class<?> type) {
        Set<String> found = new TreeSet<>();
        for (Method m : type.getDeclaredMethods()) {
            if (!Modifier.isPrivate(m.getModifiers())) {
                String rest = m.toString().replace("java.lang.", "").replace("ProbeChoice.", "");
                found.add(rest.replaceFirst("^public ", "").replace(",", ", "));
            }
        }
        return found;
    }

    private static List<String> fieldsOf(Class<?> type) {
        List<String> found = new ArrayList<>();
        for (Field f : type.getDeclaredFields()) {
            if (!Modifier.isPrivate(f.getModifiers())) {
                found.add(f.getName());
            }
        }
        return found;
    }

    private static List<String> constructorsOf(Class<?> type) {
        List<String> found = new ArrayList<>();
        for (Constructor<?> c : type.getDeclaredConstructors()) {
            found.add(c.toString());
        }
        return found;
    }

    private static Set<String> namesakesOf(Class<?> type) {
        Set<String> names = new TreeSet<>();
        for (Method m : type.getMethods()) {
            names.add(m.getName());
        }
        Set<String> found = new TreeSet<>();
        for (Method m : type.getDeclaredMethods()) {
            if (Modifier.isPrivate(m.getModifiers()) && names.contains(m.getName())) {
                found.add(m.getName());
            }
        }
        return found;
    }

    private static List<String> notStaticOf(Class<?> type) {
        List<String> found = new ArrayList<>();
        for (Class<?> inside : type.getDeclaredClasses()) {
            if (!Modifier.isStatic(inside.getModifiers())) {
                found.add(inside.getName());
            }
        }
        return found;
    }
}
