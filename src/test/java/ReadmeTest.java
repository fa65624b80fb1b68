import java.io.IOException;
import java.lang.reflect.InvocationTargetException;
import java.lang.reflect.Method;
import java.nio.file.Files;
import java.nio.file.Path;
import java.util.HashMap;
import java.util.Map;
import java.util.regex.Matcher;
import java.util.regex.Pattern;

/** The examples of README.md, run as they stand there on one object. Run from the checkout. */
public final class ReadmeTest {
    private static final Pattern CALL =
        Pattern.compile("(?:int (\\w+) = )?keeper\\.(\\w+)\\((.*)\\); *// (-?\\d+|true|false): .+");
    private static final String NEW = "Loomkeeper keeper = new Loomkeeper();";

    private final Map<String, Integer> variables = new HashMap<>();
    private Loomkeeper keeper;

    public static void main(String[] args) throws IOException, ReflectiveOperationException {
        ReadmeTest test = new ReadmeTest();
        boolean inExample = false;
        for (String line : Files.readAllLines(Path.of("README.md"))) {
            if (line.startsWith("```")) {
                inExample = line.equals("```java");
            } else if (inExample) {
                test.run(line);
            }
        }
        Due.end();
    }

    private void run(String line) throws ReflectiveOperationException {
        if (line.equals(NEW)) {
            keeper = new Loomkeeper();
            return;
        }
        Matcher m = CALL.matcher(line);
        Due.is("a call with its answer: " + line, keeper != null && m.matches(), true);
        if (keeper == null || !m.matches()) {
            return;
        }
        String[] names = m.group(3).isEmpty() ? new String[0] : m.group(3).split(", ");
        Object[] arguments = new Object[names.length];
        for (int i = 0; i < names.length; i++) {
            arguments[i] = number(names[i]);
        }
        String answer = answer(m.group(2), arguments);
        Due.is(line, answer, m.group(4));
        if (m.group(1) != null) {
            variables.put(m.group(1), Integer.parseInt(answer));
        }
    }

    private int number(String name) {
        Integer value = variables.get(name);
        return value != null ? value : Integer.parseInt(name);
    }

    private String answer(String name, Object[] arguments) throws ReflectiveOperationException {
        for (Method m : Loomkeeper.class.getMethods()) {
            if (m.getName().equals(name) && m.getParameterCount() == arguments.length) {
                try {
                    return String.valueOf(m.invoke(keeper, arguments));
                } catch (InvocationTargetException e) {
                    return "throws." + e.getCause().getClass().getSimpleName();
                }
            }
        }
        return "no such call";
    }
}
