import java.lang.reflect.Constructor;
import java.lang.reflect.Field;
import java.lang.reflect.Method;
import java.lang.reflect.Modifier;
import java.util.Arrays;
import java.util.Comparator;
import java.util.TreeSet;

/** The class has the members of the document's face, and no others that are not private. */
public final class FaceTest {
    private static final String[] FACE = {
        "int read(int) IndexOutOfBoundsException",
        "int write(int, int) IndexOutOfBoundsException",
        "int walk(int, int, int) IndexOutOfBoundsException IllegalArgumentException",
        "int bringHome()",
        "int build(int, int) IllegalArgumentException",
        "int cast(int) IndexOutOfBoundsException IllegalStateException",
        "int sets()",
        "int places()",
        "int lineIn(int) IndexOutOfBoundsException",
        "int sitting()",
        "int lineOnBench(int) IndexOutOfBoundsException",
        "int placeOf(int) IndexOutOfBoundsException",
        "boolean isDirty(int) IndexOutOfBoundsException",
        "int dirty()",
        "int atHome(int) IndexOutOfBoundsException",
        "int peek(int) IndexOutOfBoundsException",
        "int hits()",
        "int swaps()",
        "int misses()",
        "int homecomings()",
        "int cost()",
        "int wouldCost(int, int) IllegalArgumentException",
        "int bestPlaces()",
    };

    public static void main(String[] args) {
        Check.due("modifiers", "public final", () -> Modifier.toString(OutcastBench.class.getModifiers()));
        Check.due("methods", new TreeSet<>(Arrays.asList(FACE)), FaceTest::openMethods);
        Check.due("constructors", "[public OutcastBench()]",
                () -> Arrays.toString(OutcastBench.class.getDeclaredConstructors()));
        Check.due("fields that are not private", 0, FaceTest::openFields);
        Check.due("static fields that are not constants", 0, FaceTest::changingStatics);
        Check.due("private methods with a public one's name", 0, FaceTest::sharedNames);
        Check.end("FaceTest");
    }

    private static TreeSet<String> openMethods() {
        TreeSet<String> open = new TreeSet<>(Comparator.naturalOrder());
        for (Method method : OutcastBench.class.getDeclaredMethods()) {
            if (!Modifier.isPrivate(method.getModifiers())) {
                open.add(signature(method));
            }
        }
        return open;
    }

    private static String signature(Method method) {
        StringBuilder text = new StringBuilder();
        if (method.getModifiers() != Modifier.PUBLIC) {
            text.append(Modifier.toString(method.getModifiers())).append(" instead of public ");
        }
        text.append(method.getReturnType().getName()).append(' ').append(method.getName());
        String types = Arrays.toString(method.getParameterTypes());
        text.append('(').append(types, 1, types.length() - 1).append(')');
        for (Class<?> thrown : method.getExceptionTypes()) {
            text.append(' ').append(thrown.getSimpleName());
        }
        return text.toString();
    }

    private static int openFields() {
        int open = 0;
        for (Field field : OutcastBench.class.getDeclaredFields()) {
            if (!Modifier.isPrivate(field.getModifiers())) {
                open++;
            }
        }
        return open;
    }

    private static int changingStatics() {
        int changing = 0;
        for (Field field : OutcastBench.class.getDeclaredFields()) {
            int modifiers = field.getModifiers();
            if (Modifier.isStatic(modifiers) && !Modifier.isFinal(modifiers)) {
                changing++;
            }
        }
        return changing;
    }

    private static int sharedNames() {
        TreeSet<String> names = new TreeSet<>();
        for (Method method : OutcastBench.class.getMethods()) {
            names.add(method.getName());
        }
        int shared = 0;
        for (Method method : OutcastBench.class.getDeclaredMethods()) {
            if (Modifier.isPrivate(method.getModifiers()) && names.contains(method.getName())) {
                shared++;
            }
        }
        for (Constructor<?> constructor : OutcastBench.class.getDeclaredConstructors()) {
            shared += Modifier.isPrivate(constructor.getModifiers()) ? 1 : 0;
        }
        return shared;
    }
}
