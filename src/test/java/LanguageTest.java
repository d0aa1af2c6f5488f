import java.io.IOException;
import java.nio.file.Files;
import java.nio.file.Path;
import java.util.ArrayList;
import java.util.HashSet;
import java.util.List;
import java.util.Set;
import java.util.regex.Matcher;
import java.util.regex.Pattern;

/** Those rules of ../shared/LANGUAGE.md that can be seen from the text of the program. Run from the project's folder. */
public final class LanguageTest {
    private static final Path PROGRAM = Path.of("src/main/java/DialectForms.java");
    private static final Pattern FORBIDDEN = Pattern.compile("\\b(throw|throws|try|catch|synchronized|assert|package"
        + "|protected|Object|equals|hashCode|toString|native|volatile|double|float|var|String|enum|record|interface"
        + "|extends|implements|instanceof)\\b|->|::|Exact\\b|@|\"");
    private static final Pattern LIBRARY = Pattern.compile("\\b[A-Z]\\w*\\.[a-z]\\w*(?=\\()");
    private static final Set<String> ALLOWED = Set.of("System.arraycopy", "Arrays.fill", "Integer.bitCount",
        "Integer.numberOfTrailingZeros", "Math.min");
    private static final Pattern CLASS = Pattern.compile("^(?: {4}private static|public) final class (\\w+) \\{$");
    private static final Pattern HEAD =
        Pattern.compile("^( {4}| {8})(public|private) ((?:static )?(?:\\w+(?:\\[\\])? )?)(\\w+)\\(([^)]*)\\) \\{$");
    private static final Pattern CALL = Pattern.compile("((?:\\w+|\\])\\.)?\\b([a-z]\\w*)\\(");
    private static final Set<String> KEYWORDS = Set.of("if", "for", "while", "switch", "return");
    private static final int MOST_DEEP = 8;

    /** A method or a constructor; a call is told by what stands ahead of its name, its name and how many numbers it gets. */
    private record Body(String owner, String name, int parameters, boolean isPublic, boolean makes, List<String> lines) { }

    private record Called(String ahead, String name, int arguments) { }

    private final Check check = new Check();
    private final List<String> lines;
    private final List<Body> bodies = new ArrayList<>();

    private LanguageTest(List<String> lines) {
        this.lines = lines;
    }

    public static void main(String[] args) throws IOException {
        List<String> lines = Files.readAllLines(PROGRAM).stream().map(LanguageTest::withoutComment).toList();
        LanguageTest test = new LanguageTest(lines);
        test.collect();
        test.words();
        test.methods();
        test.names();
        test.classes();
        test.making();
        test.depth();
        test.check.end();
    }

    private static String withoutComment(String line) {
        String bare = line.strip();
        boolean comment = bare.startsWith("*") || bare.startsWith("/*") || bare.startsWith("//");
        return comment ? "" : line;
    }

    /** The classes inside stand last, so that no method behind one of them is of the outer class again. */
    private void collect() {
        String owner = "";
        for (int k = 0; k < lines.size(); k++) {
            Matcher ofClass = CLASS.matcher(lines.get(k));
            owner = ofClass.matches() ? ofClass.group(1) : owner;
            Matcher head = HEAD.matcher(lines.get(k));
            if (head.matches()) {
                int end = k + lines.subList(k, lines.size()).indexOf(head.group(1) + "}");
                bodies.add(new Body(owner, head.group(4), count(head.group(5)), head.group(2).equals("public"),
                    head.group(4).equals(owner), lines.subList(k, end + 1)));
            }
        }
        check.isTrue("methods are found: " + bodies.size(), bodies.size() > 100);
    }

    private static int count(String list) {
        return list.isBlank() ? 0 : list.split(",").length;
    }

    private void words() {
        for (String line : lines) {
            check.isTrue("rules 2, 3, 6, 10: no such word: " + line, !FORBIDDEN.matcher(line).find());
            boolean staticState = line.contains(" static ") && !line.contains("(") && !line.contains(" class ")
                && !line.matches(" *(public|private) static final (int|long) .*");
            check.isTrue("rule 5: static fields are constants: " + line, !staticState);
            check.isTrue("rule 4: " + line, !line.startsWith("import") || line.equals("import java.util.Arrays;"));
            Matcher library = LIBRARY.matcher(line);
            while (library.find()) {
                check.isTrue("rule 4: " + library.group(), ALLOWED.contains(library.group()));
            }
        }
    }

    private void methods() {
        for (Body body : bodies) {
            String what = body.owner + "." + body.name;
            check.isTrue("rule 11: at most seven parameters: " + what, body.parameters <= 7);
            check.isTrue("rule 11: at most sixty lines: " + what, body.lines.size() > 2 && body.lines.size() <= 60);
        }
    }

    private void names() {
        Set<String> shown = new HashSet<>();
        bodies.stream().filter(body -> body.isPublic).forEach(body -> shown.add(body.name));
        for (Body body : bodies) {
            boolean isInside = !body.owner.equals("DialectForms");
            check.isTrue("rule 1: no public method inside: " + body.name, !body.isPublic || !isInside);
            check.isTrue("rule 1: a private method of a public one's name: " + body.name,
                body.isPublic || !shown.contains(body.name));
        }
    }

    private void classes() {
        long classes = lines.stream().filter(line -> line.contains(" class ")).count();
        long told = lines.stream().filter(line -> CLASS.matcher(line).matches()).count();
        check.due("rule 2: classes inside that are private and static, and the one around", told, classes);
        check.isTrue("rule 11: at most twelve classes: " + classes, classes <= 12);
        long fields = lines.stream().filter(line -> line.matches(" {4}private (?!static)[^(]*( = .*)?;")).count();
        check.isTrue("rule 11: some twenty fields: " + fields, fields > 0 && fields <= 20);
    }

    private void making() {
        for (Body body : bodies) {
            for (String line : body.lines) {
                check.isTrue("rule 12: a call makes no object: " + line, body.makes || !line.contains("new "));
            }
        }
    }

    private void depth() {
        for (Body body : bodies) {
            int deep = deepest(body, MOST_DEEP);
            check.isTrue("rules 8, 11: " + body.name + " goes " + deep + " calls deep, or round", deep <= MOST_DEEP);
        }
    }

    /** How many calls stand open at once, those of the library counted; more than the bound, if they go on. */
    private int deepest(Body body, int bound) {
        if (bound == 0) {
            return 1;
        }
        int most = 0;
        for (Called called : calledBy(body)) {
            Body next = bodyOf(body, called);
            check.isTrue(called + " is a call of the program or of the library",
                next != null || ALLOWED.contains(called.ahead + called.name));
            most = Math.max(most, next == null ? 1 : deepest(next, bound - 1));
        }
        return most + 1;
    }

    private static List<Called> calledBy(Body body) {
        List<Called> all = new ArrayList<>();
        String text = String.join(" ", body.lines.subList(1, body.lines.size()));
        Matcher call = CALL.matcher(text);
        while (call.find()) {
            boolean isNew = text.substring(0, call.start()).endsWith("new ");
            if (!isNew && !KEYWORDS.contains(call.group(2))) {
                all.add(new Called(call.group(1) == null ? "" : call.group(1), call.group(2), arguments(text, call.end())));
            }
        }
        return all;
    }

    /** How many arguments stand from a place on up to the bracket that ends them. */
    private static int arguments(String text, int from) {
        int open = 1;
        int commas = 0;
        int at = from;
        for (; open > 0; at++) {
            char sign = text.charAt(at);
            open += sign == '(' ? 1 : sign == ')' ? -1 : 0;
            commas += sign == ',' && open == 1 ? 1 : 0;
        }
        return text.substring(from, at - 1).isBlank() ? 0 : commas + 1;
    }

    /** A name with nothing ahead of it is of the same class or else of the one around it, any other of another class. */
    private Body bodyOf(Body from, Called called) {
        Body found = null;
        for (Body body : bodies) {
            boolean fits = body.name.equals(called.name) && body.parameters == called.arguments;
            boolean isSame = body.owner.equals(from.owner);
            boolean mayBe = called.ahead.isEmpty() ? isSame || body.owner.equals("DialectForms") : !isSame;
            if (fits && mayBe && (found == null || isSame)) {
                found = body;
            }
        }
        return found;
    }
}
