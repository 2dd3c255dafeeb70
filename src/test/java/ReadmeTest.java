import java.io.IOException;
import java.lang.reflect.InvocationTargetException;
import java.lang.reflect.Method;
import java.nio.file.Files;
import java.nio.file.Path;
import java.util.List;
import java.util.Set;
import java.util.TreeSet;
import java.util.regex.Matcher;
import java.util.regex.Pattern;

/** What README.md shows of the class is so: its example, call by call, and its table of look. */
public final class ReadmeTest {
    private static final Due due = new Due();
    private static final Pattern CALL =
        Pattern.compile("house\\.(\\w+)\\((.*)\\);\\s+// ([^:]+):.*");
    private static final Pattern LOOK = Pattern.compile("\\| (\\d) \\|.*\\| (\\d) \\|");

    public static void main(String[] args) throws IOException, IllegalAccessException {
        List<String> lines = Files.readAllLines(Path.of("README.md"));
        due.sentence("README.md: the example");
        Set<String> shown = example(lines);
        for (Method method : CycleHouse.class.getMethods()) {
            if (method.getDeclaringClass() == CycleHouse.class) {
                due.yes(method.getName() + " is shown", shown.contains(method.getName()));
            }
        }
        due.finish();
    }

    /** The names of the calls that the example shows. */
    private static Set<String> example(List<String> lines) throws IllegalAccessException {
        CycleHouse house = new CycleHouse();
        Set<String> shown = new TreeSet<>();
        for (String line : lines) {
            Matcher call = CALL.matcher(line);
            if (call.matches()) {
                if (call.group(1).equals("clear")) {
                    due.same("rows of look's table", looks(house, lines), 9);
                }
                String got = answer(house, call.group(1), call.group(2));
                due.yes(line + " (answered " + got + ")", got.equals(call.group(3)));
                shown.add(call.group(1));
            } else {
                due.no(line + " lacks its answer", line.startsWith("house."));
            }
        }
        return shown;
    }

    private static int looks(CycleHouse house, List<String> lines) {
        int rows = 0;
        for (String line : lines) {
            Matcher row = LOOK.matcher(line);
            if (row.matches()) {
                int what = Integer.parseInt(row.group(1));
                due.same(line, house.look(what), Integer.parseInt(row.group(2)));
                rows++;
            }
        }
        return rows;
    }

    private static String answer(CycleHouse house, String name, String arguments)
            throws IllegalAccessException {
        try {
            Method method = named(name);
            return method.invoke(house, values(method, arguments)).toString();
        } catch (InvocationTargetException e) {
            return "throws " + e.getCause().getClass().getSimpleName();
        }
    }

    private static Method named(String name) {
        for (Method method : CycleHouse.class.getMethods()) {
            if (method.getName().equals(name)) {
                return method;
            }
        }
        throw new IllegalArgumentException("README.md calls " + name);
    }

    private static Object[] values(Method method, String arguments) {
        Class<?>[] types = method.getParameterTypes();
        String[] texts = arguments.isEmpty() ? new String[0] : arguments.split(", ");
        Object[] values = new Object[texts.length];
        for (int i = 0; i < texts.length; i++) {
            long value = number(texts[i]);
            if (types[i] == int.class) {
                values[i] = (int) value;
            } else {
                values[i] = value;
            }
        }
        return values;
    }

    private static long number(String text) {
        return text.startsWith("0b") ? Long.parseLong(text.substring(2), 2) : Long.parseLong(text);
    }
}
