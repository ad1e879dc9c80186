import java.io.IOException;
import java.lang.reflect.InvocationTargetException;
import java.lang.reflect.Method;
import java.lang.reflect.Modifier;
import java.nio.file.Files;
import java.nio.file.Path;
import java.util.ArrayList;
import java.util.List;
import java.util.regex.Matcher;
import java.util.regex.Pattern;

/** README.md: its examples answer what stands behind them, in their order, and it names every call, and what that throws. */
final class ReadmeTest {
    private static final Pattern CALL = Pattern.compile(" {4}ground\\.(\\w+)\\((.*?)\\); *// (-?\\w+): .*");
    private static final Pattern TEXT = Pattern.compile(" {4}String text = \"(.*)\";");
    private static final String NEW = "    PlotLeases ground = new PlotLeases();";

    private static final Due due = new Due();

    public static void main(String[] args) throws IOException, IllegalAccessException {
        List<String> page = Files.readAllLines(Path.of("README.md"));
        examples(page);
        for (Method method : PlotLeases.class.getDeclaredMethods()) {
            if (Modifier.isPublic(method.getModifiers())) {
                due.truth("a row for " + method.getName() + ", and what it throws", hasRow(page, method));
            }
        }
        due.truth("how many calls", String.join(" ", page).contains("at most 512 calls"));
        due.end();
    }

    private static void examples(List<String> page) throws IllegalAccessException {
        PlotLeases ground = null;
        int made = 0;
        for (String row : page) {
            Matcher text = TEXT.matcher(row);
            if (row.equals(NEW)) {
                ground = new PlotLeases();
            } else if (text.matches()) {
                Grounds.write(ground, text.group(1));
            } else if (row.startsWith("    ground.")) {
                example(ground, row);
                made++;
            }
        }
        due.truth("there are examples", made > 10);
    }

    private static void example(PlotLeases ground, String row) throws IllegalAccessException {
        Matcher call = CALL.matcher(row);
        if (!call.matches()) {
            due.truth("an example with its answer: " + row, false);
            return;
        }
        due.same(row.strip(), call.group(3), answer(ground, call.group(1), call.group(2)));
    }

    /** The number that the call answers, or the name of the exception that it throws. */
    private static String answer(PlotLeases ground, String name, String arguments) throws IllegalAccessException {
        String[] written = arguments.isEmpty() ? new String[0] : arguments.split(", ");
        for (Method method : PlotLeases.class.getDeclaredMethods()) {
            if (method.getName().equals(name) && method.getParameterCount() == written.length) {
                return answer(ground, method, written);
            }
        }
        return "no such call";
    }

    private static String answer(PlotLeases ground, Method method, String[] written) throws IllegalAccessException {
        Object[] values = new Object[written.length];
        for (int i = 0; i < values.length; i++) {
            values[i] = value(method.getParameterTypes()[i], written[i]);
        }
        try {
            return String.valueOf(method.invoke(ground, values));
        } catch (InvocationTargetException e) {
            return e.getCause().getClass().getSimpleName();
        }
    }

    private static Object value(Class<?> kind, String written) {
        if (kind == boolean.class) {
            return Boolean.valueOf(written);
        }
        if (kind == long.class) {
            return Long.valueOf(written);
        }
        return Integer.valueOf(written);
    }

    private static boolean hasRow(List<String> page, Method method) {
        for (String row : page) {
            if (row.startsWith("| `" + method.getName() + "(")) {
                return row.endsWith(" | " + thrownBy(method) + " |");
            }
        }
        return false;
    }

    private static String thrownBy(Method method) {
        List<String> names = new ArrayList<>();
        for (Class<?> kind : method.getExceptionTypes()) {
            names.add(kind.getSimpleName().replaceAll("Illegal|OutOfBounds|Exception", ""));
        }
        return names.isEmpty() ? "nothing" : String.join(", ", names);
    }
}
