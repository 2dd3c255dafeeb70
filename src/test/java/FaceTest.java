import java.lang.reflect.Constructor;
import java.lang.reflect.Executable;
import java.lang.reflect.Field;
import java.lang.reflect.Method;
import java.lang.reflect.Modifier;
import java.util.Arrays;
import java.util.Set;
import java.util.TreeSet;

/** The public face is the document's, with its exceptions, and nothing else is to be seen. */
public final class FaceTest {
    private static final Due due = new Due();
    private static final String[] FACE = {
        "int reset(int) IllegalArgumentException",
        "int edge(int, int, int) IllegalArgumentException IllegalStateException",
        "int drop() IllegalStateException",
        "long forests(long) IllegalArgumentException",
        "long lightest(long) IllegalArgumentException",
        "int isCycle(long) IllegalArgumentException",
        "long through(int) NoSuchElementException",
        "long basis(int) NoSuchElementException",
        "boolean belongs(long) IllegalArgumentException",
        "int cycles()",
        "int light(long)",
        "int add(long) IllegalArgumentException IllegalStateException",
        "int clear()",
        "boolean spans(long) IllegalArgumentException",
        "int look(int) IllegalArgumentException",
    };

    public static void main(String[] args) {
        due.sentence("The public face");
        Class<?> house = CycleHouse.class;
        due.yes("public and final", house.getModifiers() == (Modifier.PUBLIC | Modifier.FINAL));
        constructors(house);
        methods(house);
        staticFields(house);
        for (Field field : house.getDeclaredFields()) {
            due.yes(field + " is private", Modifier.isPrivate(field.getModifiers()));
        }
        for (Class<?> inside : house.getDeclaredClasses()) {
            int kind = inside.getModifiers();
            due.yes(inside + " is static", Modifier.isStatic(kind));
            due.no(inside + " is public", Modifier.isPublic(kind) || Modifier.isProtected(kind));
            staticFields(inside);
        }
        due.finish();
    }

    private static void constructors(Class<?> house) {
        Constructor<?>[] all = house.getDeclaredConstructors();
        due.same("constructors", all.length, 1);
        due.same("its parameters", all[0].getParameterCount(), 0);
        due.yes("it is public", Modifier.isPublic(all[0].getModifiers()));
    }

    private static void methods(Class<?> house) {
        Set<String> want = new TreeSet<>(Arrays.asList(FACE));
        Set<String> got = new TreeSet<>();
        Set<String> names = new TreeSet<>();
        for (Method method : house.getDeclaredMethods()) {
            if (!Modifier.isPrivate(method.getModifiers())) {
                got.add(method.getReturnType() + " " + told(method));
                names.add(method.getName());
            }
        }
        due.yes("face " + got, got.equals(want));
        for (Method method : house.getDeclaredMethods()) {
            if (Modifier.isPrivate(method.getModifiers())) {
                due.no(method + " bears a public name", names.contains(method.getName()));
            }
        }
    }

    private static String told(Executable method) {
        StringBuilder text = new StringBuilder(method.getName()).append('(');
        String between = "";
        for (Class<?> type : method.getParameterTypes()) {
            text.append(between).append(type);
            between = ", ";
        }
        text.append(')');
        for (Class<?> type : method.getExceptionTypes()) {
            text.append(' ').append(type.getSimpleName());
        }
        return text.toString();
    }

    private static void staticFields(Class<?> of) {
        for (Field field : of.getDeclaredFields()) {
            int kind = field.getModifiers();
            due.yes(field + " is no changing static", !Modifier.isStatic(kind)
                || Modifier.isFinal(kind) && field.getType().isPrimitive());
        }
    }
}
