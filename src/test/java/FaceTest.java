import java.io.IOException;
import java.lang.reflect.Constructor;
import java.lang.reflect.Field;
import java.lang.reflect.Method;
import java.lang.reflect.Modifier;
import java.nio.file.Files;
import java.nio.file.Path;
import java.util.ArrayList;
import java.util.Arrays;
import java.util.List;
import java.util.Set;
import java.util.TreeSet;
import java.util.regex.Matcher;
import java.util.regex.Pattern;

/** The face is the document's, in its order and under its headings. */
public final class FaceTest {
    private static final Check check = new Check("FaceTest");

    private FaceTest() {
    }

    public static void main(String[] args) throws IOException {
        if (args.length < 2) {
            System.out.println("usage: FaceTest DOC.md LyingScale.java");
            System.exit(1);
        }
        String document = Files.readString(Path.of(args[0]));
        face(document);
        headings(document, Files.readString(Path.of(args[1])));
        check.close();
    }

    private static void face(String document) {
        Set<String> want = new TreeSet<>();
        int start = document.indexOf("```java");
        String block = document.substring(start, document.indexOf("```", start + 3));
        Matcher row = Pattern.compile("(?m)^    (public .*);$").matcher(block);
        while (row.find()) {
            want.add(row.group(1).replaceAll(" = -1", "").replaceAll("(int|long|double) \\w+([,)])",
                    "$1$2"));
        }
        check.same("rows of the face", 30, want.size());
        check.same("the face", want, declared());
        int kind = LyingScale.class.getModifiers();
        check.same("public and final", Modifier.PUBLIC | Modifier.FINAL, kind);
        for (Class<?> inside : LyingScale.class.getDeclaredClasses()) {
            check.same(inside + " is neither public nor protected", 0,
                    inside.getModifiers() & (Modifier.PUBLIC | Modifier.PROTECTED));
        }
    }

    private static Set<String> declared() {
        Set<String> names = new TreeSet<>();
        for (Field f : LyingScale.class.getDeclaredFields()) {
            if (!Modifier.isPrivate(f.getModifiers())) {
                names.add(Modifier.toString(f.getModifiers()) + " " + f.getType() + " "
                        + f.getName());
            }
        }
        for (Constructor<?> c : LyingScale.class.getDeclaredConstructors()) {
            names.add(c.toString());
        }
        for (Method m : LyingScale.class.getDeclaredMethods()) {
            if (!Modifier.isPrivate(m.getModifiers()) && !m.isSynthetic()) {
                String row = Modifier.toString(m.getModifiers()) + " " + m.getReturnType() + " "
                        + m.getName() + "(" + types(m.getParameterTypes()) + ")";
                String thrown = types(m.getExceptionTypes());
                names.add(thrown.isEmpty() ? row : row + " throws " + thrown);
            }
        }
        return names;
    }

    private static String types(Class<?>[] types) {
        return String.join(", ", Arrays.stream(types).map(Class::getSimpleName).toList());
    }

    /** The document tells which comment stands ahead of which calls, and all calls by their order. */
    private static void headings(String document, String source) {
        List<String> want = new ArrayList<>();
        Matcher row = Pattern.compile("(?m)^Ahead of the calls (.*) the interface says: (---- .*)\\.$")
                .matcher(document);
        while (row.find()) {
            want.add("// " + row.group(2));
            want.addAll(List.of(row.group(1).replace("`", "").split(", ")));
        }
        List<String> got = new ArrayList<>();
        Matcher line = Pattern.compile("(?m)^    (// ---- .*|public \\w+ (\\w+)\\(.*)$")
                .matcher(source);
        while (line.find()) {
            got.add(line.group(2) == null ? line.group(1) : line.group(2));
        }
        check.same("headings and calls of the document", 8 + 28, want.size());
        check.same("headings and calls", want, got);
    }
}
