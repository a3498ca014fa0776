import java.io.IOException;
import java.lang.reflect.Constructor;
import java.lang.reflect.Field;
import java.lang.reflect.Method;
import java.lang.reflect.Modifier;
import java.nio.file.Files;
import java.nio.file.Path;
import java.util.HashSet;
import java.util.Set;
import java.util.TreeSet;
import java.util.regex.Matcher;
import java.util.regex.Pattern;

/** The face is the document's, word for word, and the program keeps to what of LANGUAGE.md can be seen from outside. */
public final class FaceTest {
    private static final String[] BARRED = {"throw", "try", "catch", "synchronized", "assert", "import", "package",
        "protected", "Object", "Exception", "lambda", "->", "::", "@", "\""};

    private static int wrong = 0;

    private static void check(boolean fine, String what) {
        if (fine) return;
        wrong++;
        System.out.println("FaceTest: " + what);
    }

    public static void main(String[] args) throws IOException {
        if (args.length != 2) {
            System.out.println("FaceTest: needs the document's and the program's path");
            System.exit(1);
        }
        Set<String> told = toldFace(Files.readString(Path.of(args[0])));
        check(told.size() == 47, "the document's face has " + told.size() + " lines");
        check(told.equals(face()), "the face is " + face() + ", told is " + told);
        members();
        source(Files.readString(Path.of(args[1])));
        System.out.println("FaceTest: " + wrong + " wrong");
        if (wrong > 0) System.exit(1);
    }

    private static Set<String> toldFace(String document) {
        Set<String> told = new TreeSet<>();
        Matcher m = Pattern.compile("^    public (.*);$", Pattern.MULTILINE).matcher(document);
        while (m.find()) told.add(m.group(1).replaceAll("(int|long) \\w+(?=[,)])", "$1"));
        return told;
    }

    private static Set<String> face() {
        Set<String> face = new TreeSet<>();
        for (Constructor<?> c : PouredForLeaving.class.getConstructors()) {
            face.add("PouredForLeaving(" + types(c.getParameterTypes()) + ")");
        }
        for (Method m : PouredForLeaving.class.getDeclaredMethods()) {
            if (!Modifier.isPublic(m.getModifiers())) continue;
            face.add(m.getReturnType() + " " + m.getName() + "(" + types(m.getParameterTypes()) + ")");
        }
        return face;
    }

    private static String types(Class<?>[] types) {
        StringBuilder text = new StringBuilder();
        for (Class<?> type : types) text.append(text.length() > 0 ? ", " : "").append(type.getName());
        return text.toString();
    }

    private static void members() {
        Class<?> face = PouredForLeaving.class;
        check(Modifier.isFinal(face.getModifiers()) && Modifier.isPublic(face.getModifiers()), "public and final");
        Set<String> open = new HashSet<>();
        for (Method m : face.getDeclaredMethods()) if (Modifier.isPublic(m.getModifiers())) open.add(m.getName());
        hidden(face, open, true);
        check(face.getDeclaredClasses().length <= 11, "too many classes");
        for (Class<?> inside : face.getDeclaredClasses()) {
            check(Modifier.isStatic(inside.getModifiers()), inside + " is not static");
            check(!Modifier.isPublic(inside.getModifiers()), inside + " is public");
            hidden(inside, open, false);
        }
    }

    private static void hidden(Class<?> of, Set<String> open, boolean outermost) {
        int fields = 0;
        for (Field f : of.getDeclaredFields()) {
            check(Modifier.isPrivate(f.getModifiers()), f + " is not private");
            check(!Modifier.isStatic(f.getModifiers()) || Modifier.isFinal(f.getModifiers()), f + " is not final");
            if (!Modifier.isStatic(f.getModifiers())) fields++;
        }
        check(fields <= 20, of + " has too many fields");
        for (Method m : of.getDeclaredMethods()) {
            check(m.getParameterCount() <= 7, m + " takes too much");
            if (outermost && Modifier.isPublic(m.getModifiers())) continue;
            check(!outermost || Modifier.isPrivate(m.getModifiers()), m + " is not private");
            check(!open.contains(m.getName()), m + " bears a public name");
        }
    }

    private static void source(String text) {
        String code = text.replaceAll("(?s)/\\*.*?\\*/", " ").replaceAll("//[^\n]*", " ");
        for (String barred : BARRED) {
            String word = Pattern.quote(barred);
            String pattern = barred.matches("\\w+") ? "\\b" + word + "\\b" : word;
            check(!Pattern.compile(pattern).matcher(code).find(), "the program has " + barred);
        }
        check(text.chars().allMatch(c -> c == '\n' || c >= 32 && c < 127), "a sign beyond 32 to 126");
    }
}
