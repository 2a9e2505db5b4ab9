import java.io.File;
import java.io.IOException;
import java.lang.reflect.Method;
import java.lang.reflect.Modifier;
import java.nio.file.Files;
import java.nio.file.Path;
import java.util.regex.Matcher;
import java.util.regex.Pattern;

/** README.md: its example answers as it says, and no call of the face and no test is missing. Run in the project's folder. */
public final class ReadmeTest {
    private static final Pattern WRITTEN = Pattern.compile("char letter : \"([^\"]*)\"");
    private static final Pattern CALL = Pattern.compile("(?m)^x\\.(\\w+)\\(([\\d, ]*)\\);\\s*// (-?\\d+):");
    private static final Pattern ANY_CALL = Pattern.compile("(?m)^x\\.");

    public static void main(String[] args) throws IOException, ReflectiveOperationException {
        String text = Files.readString(Path.of("README.md"));
        example(text);
        calls(text);
        tests(text);
        Check.end();
    }

    private static void example(String text) throws ReflectiveOperationException {
        Matcher written = WRITTEN.matcher(text);
        Check.holds("the example has a table", written.find());
        TossRows x = new TossRows();
        Check.write(x, written.group(1));
        Matcher call = CALL.matcher(text);
        int tried = 0;
        while (call.find()) {
            Check.due(call.group(), answer(x, call.group(1), call.group(2)), Long.parseLong(call.group(3)));
            tried++;
        }
        Check.due("calls of the example that tell an answer", tried, ANY_CALL.matcher(text).results().count());
        Check.holds("the example calls something", tried > 0);
    }

    private static long answer(TossRows x, String name, String numbers) throws ReflectiveOperationException {
        String[] parts = numbers.isEmpty() ? new String[0] : numbers.split(", ");
        Class<?>[] types = new Class<?>[parts.length];
        Object[] values = new Object[parts.length];
        for (int i = 0; i < parts.length; i++) {
            types[i] = int.class;
            values[i] = Integer.valueOf(parts[i]);
        }
        return ((Number) TossRows.class.getMethod(name, types).invoke(x, values)).longValue();
    }

    private static void calls(String text) {
        for (Method method : TossRows.class.getDeclaredMethods()) {
            boolean isOpen = Modifier.isPublic(method.getModifiers());
            Check.holds(method.getName() + " stands in README.md", !isOpen || text.contains("`" + method.getName() + "("));
        }
    }

    private static void tests(String text) {
        String[] names = new File("src/test/java").list();
        Check.holds("there are tests", names != null && names.length > 0);
        for (String name : names) {
            String test = name.replace(".java", "");
            Check.holds(test + " stands in README.md", !test.endsWith("Test") || text.matches("(?s).*\\b" + test + "\\b.*"));
        }
    }
}
