import java.io.IOException;
import java.lang.reflect.Method;
import java.nio.file.Files;
import java.nio.file.Path;
import java.util.regex.Matcher;
import java.util.regex.Pattern;

/** README.md tells every call, and its example answers as it says. */
public final class ReadmeTest {
    private static final Checks CHECKS = new Checks("ReadmeTest");
    private static final Pattern TYPED = Pattern.compile("\"([^\"]*)\"\\.toCharArray\\(\\)");
    private static final Pattern CALL = Pattern.compile("(?m)^x\\.(\\w+)\\(([-0-9, ]*)\\); +// (-?[0-9]+) ");
    private static final int FEWEST_CALLS = 20;

    public static void main(String[] args) throws IOException, ReflectiveOperationException {
        String readme = Files.readString(Path.of("README.md"));
        example(readme);
        for (Method method : MarkOrder.class.getMethods()) {
            if (method.getDeclaringClass() == MarkOrder.class) {
                CHECKS.holds("README.md tells " + method, readme.contains("`" + method.getName() + "("));
            }
        }
        CHECKS.end();
    }

    private static void example(String readme) throws ReflectiveOperationException {
        MarkOrder x = new MarkOrder();
        Matcher typed = TYPED.matcher(readme);
        CHECKS.holds("the example types a text", typed.find());
        Trial.write(x, typed.group(1));
        Matcher call = CALL.matcher(readme);
        int calls = 0;
        while (call.find()) {
            calls++;
            CHECKS.due(call.group(), answer(x, call.group(1), call.group(2)), Long.parseLong(call.group(3)));
        }
        CHECKS.holds("the example's calls are found: " + calls, calls >= FEWEST_CALLS);
    }

    private static long answer(MarkOrder x, String name, String numbers) throws ReflectiveOperationException {
        String[] parts = numbers.isBlank() ? new String[0] : numbers.split(", ");
        Class<?>[] types = new Class<?>[parts.length];
        Object[] values = new Object[parts.length];
        for (int i = 0; i < parts.length; i++) {
            types[i] = int.class;
            values[i] = Integer.valueOf(parts[i]);
        }
        return ((Number) MarkOrder.class.getMethod(name, types).invoke(x, values)).longValue();
    }
}
