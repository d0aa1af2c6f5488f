import java.io.IOException;
import java.nio.file.Files;
import java.nio.file.Path;
import java.util.List;
import java.util.regex.Matcher;
import java.util.regex.Pattern;

/** Those rules of ../shared/LANGUAGE.md that can be seen from the text of the program. Run from the project's folder. */
public final class LanguageTest {
    private static final Path PROGRAM = Path.of("src/main/java/DialectForms.java");
    private static final Pattern FORBIDDEN = Pattern.compile("\\b(throw|throws|try|catch|synchronized|assert|package"
        + "|protected|Object|equals|hashCode|toString|native|volatile|double|float|var)\\b|->|::|Exact\\b|@");
    private static final Pattern HEAD = Pattern.compile("^ {4,8}(?:public|private) [^=;]*\\(([^)]*)\\) \\{$");

    public static void main(String[] args) throws IOException {
        Check check = new Check();
        List<String> lines = Files.readAllLines(PROGRAM).stream().map(LanguageTest::withoutComment).toList();
        words(check, lines);
        methods(check, lines);
        classes(check, lines);
        check.end();
    }

    private static String withoutComment(String line) {
        String bare = line.strip();
        boolean comment = bare.startsWith("*") || bare.startsWith("/*") || bare.startsWith("//");
        return comment ? "" : line;
    }

    private static void words(Check check, List<String> lines) {
        for (String line : lines) {
            Matcher found = FORBIDDEN.matcher(line);
            check.isTrue("no such word: " + line, !found.find());
            boolean staticState = line.contains(" static ") && !line.contains("(") && !line.contains(" class ")
                && !line.contains(" final ");
            check.isTrue("static fields are final: " + line, !staticState);
            check.isTrue("java.util alone: " + line, !line.startsWith("import") || line.startsWith("import java.util."));
        }
    }

    private static void methods(Check check, List<String> lines) {
        for (int k = 0; k < lines.size(); k++) {
            Matcher head = HEAD.matcher(lines.get(k));
            if (!head.matches()) {
                continue;
            }
            int parameters = head.group(1).isEmpty() ? 0 : head.group(1).split(",").length;
            check.isTrue("at most seven parameters: " + lines.get(k), parameters <= 7);
            String end = lines.get(k).substring(0, lines.get(k).indexOf('p')) + "}";
            int length = lines.subList(k, lines.size()).indexOf(end) + 1;
            check.isTrue("at most sixty lines: " + lines.get(k), length > 0 && length <= 60);
        }
    }

    private static void classes(Check check, List<String> lines) {
        long classes = lines.stream().filter(line -> line.contains(" class ")).count();
        check.isTrue("at most twelve classes: " + classes, classes <= 12);
        long fields = lines.stream().filter(line -> line.matches(" {4}private (?!static)[^(]*( = .*)?;")).count();
        check.isTrue("some twenty fields: " + fields, fields > 0 && fields <= 20);
    }
}
