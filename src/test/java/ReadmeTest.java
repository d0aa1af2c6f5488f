import java.io.IOException;
import java.lang.reflect.Method;
import java.nio.file.Files;
import java.nio.file.Path;
import java.util.HashMap;
import java.util.List;
import java.util.Map;
import java.util.regex.Matcher;
import java.util.regex.Pattern;

/** The examples of README.md: each of their calls answers what stands behind it. Run from the project's folder. */
public final class ReadmeTest {
    private static final Path README = Path.of("README.md");
    private static final String NEW = "DialectForms x = new DialectForms();";
    private static final Pattern LINE = Pattern.compile("(?:int (\\w+) = )?x\\.(\\w+)\\((.*)\\); *// (-?\\d+)(?:: .*)?");

    private final Check check = new Check();
    private final Map<String, Method> methods = new HashMap<>();
    private final Map<String, Integer> names = new HashMap<>();
    private DialectForms x = null;
    private int calls = 0;

    private ReadmeTest() {
        for (Method m : DialectForms.class.getDeclaredMethods()) {
            methods.put(m.getName(), m);
        }
    }

    public static void main(String[] args) throws IOException, ReflectiveOperationException {
        ReadmeTest test = new ReadmeTest();
        List<String> lines = Files.readAllLines(README);
        test.examples(lines);
        test.check.isTrue("there are examples in README.md", test.calls > 20);
        test.tests(lines);
        test.check.end();
    }

    private void examples(List<String> lines) throws ReflectiveOperationException {
        boolean isCode = false;
        for (String line : lines) {
            if (line.startsWith("```")) {
                isCode = line.equals("```java");
            } else if (isCode && !line.isBlank()) {
                example(line);
            }
        }
    }

    private void example(String line) throws ReflectiveOperationException {
        if (line.equals(NEW)) {
            x = new DialectForms();
            names.clear();
            return;
        }
        Matcher told = LINE.matcher(line);
        if (!told.matches() || x == null || !methods.containsKey(told.group(2))) {
            check.isTrue("README.md: " + line + " is a call with its answer", false);
            return;
        }
        calls++;
        long got = ((Number) methods.get(told.group(2)).invoke(x, arguments(told.group(3)))).longValue();
        check.due("README.md: " + line, got, Long.parseLong(told.group(4)));
        if (told.group(1) != null) {
            names.put(told.group(1), (int) got);
        }
    }

    private Object[] arguments(String text) {
        if (text.isEmpty()) {
            return new Object[0];
        }
        String[] parts = text.split(", ");
        Object[] numbers = new Object[parts.length];
        for (int k = 0; k < parts.length; k++) {
            numbers[k] = number(parts[k]);
        }
        return numbers;
    }

    private int number(String part) {
        if (part.startsWith("1 << ")) {
            return 1 << number(part.substring(5));
        }
        if (part.startsWith("'")) {
            return part.charAt(1);
        }
        return names.containsKey(part) ? names.get(part) : Integer.parseInt(part);
    }

    /** README.md names each test of the project, and none that there isn't. */
    private void tests(List<String> lines) throws IOException {
        try (var files = Files.list(Path.of("src/test/java"))) {
            List<String> there = files.map(file -> file.getFileName().toString()).filter(name -> name.endsWith("Test.java"))
                .map(name -> name.replace(".java", "")).sorted().toList();
            List<String> told = lines.stream().filter(line -> line.startsWith("| `") && line.contains("Test` |"))
                .map(line -> line.split("`")[1]).sorted().toList();
            check.isTrue("README.md tells of the tests " + told + ", there are " + there, told.equals(there));
        }
    }
}
