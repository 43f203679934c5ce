import java.io.IOException;
import java.lang.reflect.Method;
import java.nio.file.Files;
import java.nio.file.Path;
import java.util.regex.Matcher;
import java.util.regex.Pattern;

/** Makes the calls that stand in README.md, so that it tells nothing that is not so. */
public final class ReadmeTest {
    private static final Path README = Path.of("README.md");
    private static final Pattern EXAMPLE = Pattern.compile("(?s)```java\nHeavyGuests guests = new HeavyGuests\\(\\);\n(.*?)```");
    private static final Pattern CALL = Pattern.compile("guests\\.(\\w+)\\(([^)]*)\\); *// (-?\\d+)\\b.*");

    private static final Checks checks = new Checks();

    public static void main(String[] args) throws Exception {
        String text = Files.readString(README);
        example(text);
        namesOfCalls(text);
        testsAreTold(text);
        checks.finish();
    }

    private static void example(String text) throws Exception {
        Matcher example = EXAMPLE.matcher(text);
        checks.holds("README.md has an example", example.find());
        HeavyGuests guests = new HeavyGuests();
        for (String line : example.group(1).split("\n")) {
            Matcher call = CALL.matcher(line);
            if (call.matches()) {
                checks.due(line, answer(guests, call.group(1), call.group(2)), Long.parseLong(call.group(3)));
            } else {
                checks.holds("a call and its answer: " + line, false);
            }
        }
    }

    private static int answer(HeavyGuests guests, String name, String values) throws Exception {
        Method method = method(name);
        String[] given = values.isEmpty() ? new String[0] : values.split(", ");
        Object[] arguments = new Object[given.length];
        for (int i = 0; i < given.length; i++) {
            boolean isInt = method.getParameterTypes()[i] == int.class;
            arguments[i] = isInt ? (Object) Integer.decode(given[i]) : (Object) Long.decode(given[i]);
        }
        return (Integer) method.invoke(guests, arguments);
    }

    private static Method method(String name) {
        for (Method method : HeavyGuests.class.getDeclaredMethods()) {
            if (method.getName().equals(name)) {
                return method;
            }
        }
        throw new IllegalStateException("README.md names a call that is not there: " + name);
    }

    private static void namesOfCalls(String text) {
        for (Method method : HeavyGuests.class.getMethods()) {
            if (method.getDeclaringClass() == HeavyGuests.class) {
                checks.holds("README.md tells of " + method.getName(), text.contains("`" + method.getName() + "`"));
            }
        }
    }

    private static void testsAreTold(String text) throws IOException {
        try (var files = Files.list(Path.of("src/test/java"))) {
            for (Path file : (Iterable<Path>) files::iterator) {
                String name = file.getFileName().toString().replace(".java", "");
                checks.holds("README.md tells of " + name, !name.endsWith("Test") || text.contains(name));
            }
        }
    }
}
