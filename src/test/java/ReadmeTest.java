import java.io.IOException;
import java.lang.reflect.Method;
import java.lang.reflect.Modifier;
import java.nio.file.Files;
import java.nio.file.Path;
import java.util.Arrays;
import java.util.List;
import java.util.Set;
import java.util.TreeSet;
import java.util.regex.Matcher;
import java.util.regex.Pattern;
import java.util.stream.Stream;

/**
 * What README.md says holds: its table names every call, its list every test. Its examples are written out as a program,
 * which .ci/run compiles and runs: ReadmeExamples fails if an example answers something else than README.md tells.
 */
public final class ReadmeTest {
    private static final Pattern EXAMPLE = Pattern.compile("(?s)```java\n(.*?)```");
    private static final Pattern ANSWERED =
        Pattern.compile("(?:(int|long) (\\w+) = )?(\\w+\\.\\w+\\(.*\\)); *// (-?\\d+)\\b.*");
    private static final String[] HEAD = {
        "public final class ReadmeExamples {",
        "    private static int wrong = 0;",
        "    private static void due(String call, long got, long want) {",
        "        if (got == want) return;",
        "        wrong++;",
        "        System.out.println(\"README.md: \" + call + \" answered \" + got + \", told is \" + want);",
        "    }",
        "    public static void main(String[] args) {",
    };
    private static final String[] TAIL = {
        "        if (wrong > 0) System.exit(1);",
        "    }",
        "}",
    };

    private static int checked = 0;
    private static int wrong = 0;

    public static void main(String[] args) throws IOException, ReflectiveOperationException {
        if (args.length != 1) {
            System.out.println("ReadmeTest: needs a directory for ReadmeExamples.java");
            System.exit(1);
        }
        String readme = Files.readString(Path.of("README.md"));
        Files.writeString(Path.of(args[0], "ReadmeExamples.java"), examples(readme));
        everyCallIsNamed(readme);
        lastRowsOnlyLookAhead(readme);
        everyTestIsNamedAndRun(readme);
        callsMakeNothing();
        System.out.println("ReadmeTest: " + checked + " checks, " + wrong + " wrong");
        if (wrong > 0) System.exit(1);
    }

    private static void check(boolean fine, String what) {
        checked++;
        if (fine) return;
        wrong++;
        System.out.println("ReadmeTest: " + what);
    }

    private static String examples(String readme) {
        StringBuilder program = new StringBuilder(String.join("\n", HEAD)).append('\n');
        Matcher m = EXAMPLE.matcher(readme);
        int many = 0;
        while (m.find()) {
            many++;
            program.append("        {\n");
            for (String line : m.group(1).lines().toList()) program.append(checking(line)).append('\n');
            program.append("        }\n");
        }
        check(many > 0, "README.md has no example");
        return program.append(String.join("\n", TAIL)).append('\n').toString();
    }

    /** A line of an example; where its comment begins with an answer, it looks whether the call gives it. */
    private static String checking(String line) {
        Matcher m = ANSWERED.matcher(line);
        if (!m.matches()) {
            check(!line.contains("//"), "a comment without the answer of a call: " + line);
            return line;
        }
        checked++;
        String type = m.group(1);
        String name = m.group(2);
        String call = m.group(3);
        String due = "due(\"" + call + "\", " + (name == null ? call : name) + ", " + m.group(4) + "L);";
        return name == null ? due : type + " " + name + " = " + call + "; " + due;
    }

    private static List<String> rows(String readme) {
        return readme.lines().filter(line -> line.startsWith("| ")).toList();
    }

    private static List<String> namesIn(String row) {
        return Pattern.compile("`(\\w+)`").matcher(row).results().map(name -> name.group(1)).toList();
    }

    private static void everyCallIsNamed(String readme) {
        Set<String> named = new TreeSet<>();
        for (String row : rows(readme)) {
            for (String name : namesIn(row)) check(named.add(name), name + " is named twice");
        }
        Set<String> calls = new TreeSet<>();
        for (Method m : PouredForLeaving.class.getDeclaredMethods()) {
            if (Modifier.isPublic(m.getModifiers())) calls.add(m.getName());
        }
        check(named.equals(calls), "the table names " + named + ", there are " + calls);
    }

    /** Nothing changes by them but the ROW, where README.md says so, and REFUSALS. */
    private static void lastRowsOnlyLookAhead(String readme) throws ReflectiveOperationException {
        List<String> rows = rows(readme);
        Set<String> names = new TreeSet<>();
        for (String row : rows.subList(rows.size() - 4, rows.size())) names.addAll(namesIn(row));
        names.removeAll(Set.of("row", "clear", "judge"));
        for (Method m : PouredForLeaving.class.getDeclaredMethods()) {
            if (Modifier.isPublic(m.getModifiers()) && names.contains(m.getName())) onlyLooksAhead(m);
        }
    }

    private static void onlyLooksAhead(Method m) throws ReflectiveOperationException {
        PouredForLeaving x = Edge.of(Edge.MIXED);
        x.image();
        x.row(0);
        x.rises(2);
        x.feed('g');
        long[] before = Edge.all(x);
        for (int way = 0; way < 81; way++) {
            Object[] given = {way % 3, way / 3 % 3, way / 9 % 3, way / 27};
            m.invoke(x, Arrays.copyOf(given, m.getParameterCount()));
        }
        check(Arrays.equals(before, Edge.all(x)), m.getName() + " changes something");
    }

    private static void everyTestIsNamedAndRun(String readme) throws IOException {
        Set<String> listed = new TreeSet<>();
        Matcher m = Pattern.compile("(?m)^- `(\\w+)`:").matcher(readme);
        while (m.find()) listed.add(m.group(1));
        Set<String> tests = tests();
        check(listed.equals(tests), "README.md lists " + listed + ", there are " + tests);
        String run = Files.readString(Path.of(".ci", "run"));
        for (String test : tests) {
            check(Pattern.compile("(?m)^java -cp .* " + test + "\\b").matcher(run).find(), ".ci/run does not run " + test);
        }
    }

    /** The project's classes with a main method. */
    private static Set<String> tests() throws IOException {
        Set<String> tests = new TreeSet<>();
        List<Path> files;
        try (Stream<Path> all = Files.list(Path.of("src", "test", "java"))) {
            files = all.toList();
        }
        for (Path file : files) {
            if (!Pattern.compile("(?m)^    public static void main\\(").matcher(Files.readString(file)).find()) continue;
            tests.add(file.getFileName().toString().replace(".java", ""));
        }
        return tests;
    }

    /** "new" stands only where a field is made, or in the constructor that is told how long its row is. */
    private static void callsMakeNothing() throws IOException {
        Path program = Path.of("src", "main", "java", "PouredForLeaving.java");
        String field = "private final [\\w\\[\\]]+ \\w+ = new .*;";
        String constructor = "numbers = new int[Math.max(most, 0)];";
        for (String line : Files.readString(program).replaceAll("(?s)/\\*.*?\\*/", "").lines().toList()) {
            String code = line.replaceAll("//.*", "").trim();
            if (!code.matches(".*\\bnew\\b.*")) continue;
            check(code.matches(field) || code.equals(constructor), "a call may make something: " + code);
        }
    }
}
