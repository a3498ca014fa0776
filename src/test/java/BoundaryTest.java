import java.io.IOException;
import java.lang.reflect.InvocationTargetException;
import java.lang.reflect.Method;
import java.nio.file.Files;
import java.nio.file.Path;
import java.util.ArrayList;
import java.util.Arrays;
import java.util.Comparator;
import java.util.List;
import java.util.regex.Matcher;
import java.util.regex.Pattern;

/**
 * Runs a test of its own for each sentence of the document that names a boundary case. The tests quote the sentences;
 * it fails as well if the document has no such words, or if words that tell of a boundary are quoted by no test.
 */
public final class BoundaryTest {
    private static final List<Class<?>> TESTS = List.of(GuestEdges.class, HouseEdges.class, MindEdges.class,
        OtherwiseEdges.class, LaterEdges.class, RefusalEdgesTo23.class, RefusalEdgesFrom24.class, OrderEdges.class);

    /** Words that tell of a boundary: a range, a refusal or -9, the most and the least, what is with none. */
    private static final Pattern BOUNDARY = Pattern.compile("\\.\\. ?\\d|-\\d|at most|at least|at first|of several|never"
        + "|\\bnone\\b|nothing|\\bcut\\b|above|below|fewest|\\bfirst\\b|latest|soonest|longest|\\bmost\\b|lowest|, too");

    private final String document;
    private final boolean[] quoted;
    private int tests = 0;

    private BoundaryTest(String document) {
        this.document = document;
        quoted = new boolean[document.length()];
        passOver("(?m)^## .*$");
        passOver("(?m)^`.*?`");
    }

    /** Headings and faces of methods tell of no boundary. */
    private void passOver(String pattern) {
        Matcher m = Pattern.compile(pattern).matcher(document);
        while (m.find()) Arrays.fill(quoted, m.start(), m.end(), true);
    }

    public static void main(String[] args) throws IOException, IllegalAccessException {
        if (args.length != 1) {
            System.out.println("BoundaryTest: needs the document's path");
            System.exit(1);
        }
        BoundaryTest all = new BoundaryTest(Files.readString(Path.of(args[0])));
        for (Class<?> tests : TESTS) all.run(tests);
        all.everyBoundaryIsQuoted();
        System.out.println("BoundaryTest: " + all.tests + " tests, " + Edge.checked + " checks, " + Edge.wrong + " wrong");
        if (Edge.wrong > 0) System.exit(1);
    }

    private static void wrong(String what) {
        Edge.wrong++;
        System.out.println("BoundaryTest: " + what);
    }

    private void run(Class<?> edges) throws IllegalAccessException {
        List<Method> methods = new ArrayList<>(Arrays.asList(edges.getDeclaredMethods()));
        methods.sort(Comparator.comparing(Method::getName));
        for (Method test : methods) {
            Says says = test.getAnnotation(Says.class);
            if (says == null) continue;
            quote(test, says);
            run(test, says);
        }
    }

    private void run(Method test, Says says) throws IllegalAccessException {
        tests++;
        Edge.test = test.getDeclaringClass().getName() + "." + test.getName() + " (\"" + says.value() + "\")";
        int checked = Edge.checked;
        try {
            test.invoke(null);
        } catch (InvocationTargetException thrown) {
            wrong(Edge.test + " threw " + thrown.getCause());
        }
        if (Edge.checked == checked) wrong(Edge.test + " checks nothing");
    }

    private void quote(Method test, Says says) {
        int start = startOf(says.promise());
        int end = startOf(says.promise() + 1);
        int place = document.indexOf(says.value(), start);
        boolean stands = place >= 0 && place + says.value().length() <= end;
        if (!stands) {
            wrong(test.getName() + " quotes what the document does not say: " + says.value());
            return;
        }
        int again = document.indexOf(says.value(), place + 1);
        if (again >= 0 && again < end) wrong(test.getName() + " quotes what stands twice: " + says.value());
        Arrays.fill(quoted, place, place + says.value().length(), true);
    }

    /** Where the section of a promise starts; of 0 all ahead of them, of one more than the last what is not promised. */
    private int startOf(int promise) {
        if (promise == 0) return 0;
        int place = document.indexOf("## Promise " + promise + ":");
        return place >= 0 ? place : document.indexOf("## Not promised");
    }

    private void everyBoundaryIsQuoted() {
        Matcher m = BOUNDARY.matcher(document);
        m.region(document.indexOf("## Terms"), startOf(Integer.MAX_VALUE));
        while (m.find()) {
            if (quoted[m.start()]) continue;
            int from = Math.max(document.lastIndexOf('\n', m.start()) + 1, m.start() - 60);
            wrong("no test quotes \"" + document.substring(from, Math.min(m.end() + 20, document.length())).trim() + "\"");
        }
    }
}
