import java.io.IOException;
import java.lang.reflect.Constructor;
import java.lang.reflect.Field;
import java.lang.reflect.Method;
import java.lang.reflect.Modifier;
import java.nio.file.Files;
import java.nio.file.Path;
import java.util.Arrays;
import java.util.Set;
import java.util.TreeSet;
import java.util.regex.Matcher;
import java.util.regex.Pattern;

/** The face is the document's, and the source keeps to what a look can tell of LANGUAGE.md. */
public final class FaceTest {
    private static final Check check = new Check("FaceTest");

    private FaceTest() {
    }

    public static void main(String[] args) throws IOException {
        if (args.length != 2) {
            System.out.println("usage: FaceTest DOC.md LyingScale.java");
            System.exit(1);
        }
        face(Files.readString(Path.of(args[0])));
        source(Files.readString(Path.of(args[1])));
        check.close();
    }

    private static void face(String document) {
        Set<String> want = new TreeSet<>();
        int start = document.indexOf("```java");
        String block = document.substring(start, document.indexOf("```", start + 3));
        Matcher row = Pattern.compile("(?m)^    (public .*);$").matcher(block);
        while (row.find()) {
            want.add(row.group(1).replaceAll(" = -1", "").replaceAll("(int|long|double) \\w+([,)])",
                    "$1$2"));
        }
        check.same("rows of the face", 30, want.size());
        check.same("the face", want, declared());
        int kind = LyingScale.class.getModifiers();
        check.same("public and final", Modifier.PUBLIC | Modifier.FINAL, kind);
        for (Class<?> inside : LyingScale.class.getDeclaredClasses()) {
            check.same(inside + " is neither public nor protected", 0,
                    inside.getModifiers() & (Modifier.PUBLIC | Modifier.PROTECTED));
        }
    }

    private static Set<String> declared() {
        Set<String> names = new TreeSet<>();
        for (Field f : LyingScale.class.getDeclaredFields()) {
            if (!Modifier.isPrivate(f.getModifiers())) {
                names.add(Modifier.toString(f.getModifiers()) + " " + f.getType() + " "
                        + f.getName());
            }
        }
        for (Constructor<?> c : LyingScale.class.getDeclaredConstructors()) {
            names.add(c.toString());
        }
        for (Method m : LyingScale.class.getDeclaredMethods()) {
            if (!Modifier.isPrivate(m.getModifiers()) && !m.isSynthetic()) {
                String row = Modifier.toString(m.getModifiers()) + " " + m.getReturnType() + " "
                        + m.getName() + "(" + types(m.getParameterTypes()) + ")";
                String thrown = types(m.getExceptionTypes());
                names.add(thrown.isEmpty() ? row : row + " throws " + thrown);
            }
        }
        return names;
    }

    private static String types(Class<?>[] types) {
        return String.join(", ", Arrays.stream(types).map(Class::getSimpleName).toList());
    }

    private static void source(String text) {
        String code = text.replaceAll("(?s)/\\*.*?\\*/", "").replaceAll("//[^\n]*", "");
        String[] banned = {
            "\\bpackage\\b", "\\bimport\\b", "\\bcatch\\b", "\\btry\\b", "\\bfinally\\b", "->",
            "::", "\\bsynchronized\\b", "\\bassert\\b", "\\bhashCode\\b", "\\btoString\\b",
            "\\binstanceof\\b", "\\bwhile\\b", "\\bvar\\b", "\\bgetMessage\\b",
            "\\bSystem\\.(?!arraycopy)", "\\bprotected\\b", "Exact\\b",
        };
        for (String word : banned) {
            check.same("stands in the source: " + word, false,
                    Pattern.compile(word).matcher(code).find());
        }
        check.same("only signs 1 to 127", true, text.chars().allMatch(c -> c > 0 && c < 128));
        for (Method m : LyingScale.class.getDeclaredMethods()) {
            if (Modifier.isPublic(m.getModifiers())) {
                noOtherOf(m.getName());
            }
        }
    }

    private static void noOtherOf(String name) {
        int count = 0;
        for (Method m : LyingScale.class.getDeclaredMethods()) {
            count += m.getName().equals(name) ? 1 : 0;
        }
        for (Class<?> inside : LyingScale.class.getDeclaredClasses()) {
            for (Method m : inside.getDeclaredMethods()) {
                count += m.getName().equals(name) ? 1 : 0;
                check.same(m + " has at most seven parameters", true, m.getParameterCount() <= 7);
            }
            check.same(inside + " has at most twenty fields", true,
                    Arrays.stream(inside.getDeclaredFields())
                            .filter(f -> !Modifier.isStatic(f.getModifiers())).count() <= 20);
        }
        check.same("methods named " + name, 1, count);
    }
}
