import java.io.IOException;
import java.lang.reflect.InvocationTargetException;
import java.lang.reflect.Method;
import java.nio.file.Files;
import java.nio.file.Path;
import java.util.LinkedHashMap;
import java.util.Map;
import java.util.Set;
import java.util.TreeSet;
import java.util.regex.Matcher;
import java.util.regex.Pattern;

/** What the document says before its terms and behind its promises. */
public final class WholeTest {
    private static final int CALLS = 512;
    private static final Check check = new Check("WholeTest");
    // The calls of the face and the names of their arguments.
    private static final Map<String, String[]> face = new LinkedHashMap<>();

    private WholeTest() {
    }

    public static void main(String[] args) throws IOException {
        Sentences document = new Sentences(check, args, "What it is", "Not promised");
        readFace(Files.readString(Path.of(args[0])));
        document.says("What it is", "A scale that may lie", WholeTest::oneRun);
        document.says("What it is", "An object is used for at most 512 calls", WholeTest::longRuns);
        document.says("Not promised", "How the state is held inside the object is free",
                WholeTest::nothingOfObject);
        document.says("Not promised", "Use of one object from several threads", WholeTest::alone);
        document.says("Not promised", "Nothing is promised beyond the answers",
                WholeTest::afterTheLastCall);
        document.close();
    }

    private static void readFace(String document) {
        Matcher row = Pattern.compile("(?m)^    public \\w+ (\\w+)\\((.*?)\\).*;$").matcher(document);
        while (row.find()) {
            String names = row.group(2).replaceAll("\\w+ (\\w+)", "$1");
            face.put(row.group(1), names.isEmpty() ? new String[0] : names.split(", "));
        }
        check.same("calls of the face", 28, face.size());
    }

    private static void oneRun() {
        LyingScale x = Fixtures.coins(4);
        check.same("one coin at most is false: cases", 9, x.value(3));
        check.same("c is heavier, the first answer is a lie", -1, x.hide(5, 1));
        check.same("the hidden case answers by itself, a lie", 1, x.ask(0b100, 0b1));
        check.same("the truth", 0, x.ask(0b100, 0b1));
        check.same("the truth", 0, x.ask(0b110, 0b1001));
        check.same("lies of the hidden case", 1, x.lies(5));
        check.same("cases that are left by their lies: a lighter, c heavier", 2, x.value(3));
        check.same("a bound by counts", 1, x.bound());
        check.same("the best weighing of equal groups", 1, x.bestGroup(1));
        check.same("orders from a text", 3, Fixtures.carried(x, "a/b+;c/d+;a/c+;"));
        check.same("a plan as a code with distances", 2, x.distance(1, 3));
        check.same("decoding", 5, x.decode(2 + 0 * 3 + 1 * 9));
    }

    /** Each call as often as an object is used, on objects of which one is nearly new. */
    private static void longRuns() {
        for (String name : face.keySet()) {
            LyingScale x = new LyingScale();
            SlowScale y = new SlowScale();
            for (int n = 0; n < CALLS - 1; n++) {
                same(x, y, name, n);
            }
            same(x, y, "digest", CALLS);
        }
        for (String name : face.keySet()) {
            LyingScale x = new LyingScale();
            SlowScale y = new SlowScale();
            for (int n = 0; n < CALLS; n += 2) {
                same(x, y, new String[] {"hide", "ask", "add", "tell"}[n / 2 % 64 % 4], n / 2);
                same(x, y, name, n);
            }
        }
    }

    private static void same(LyingScale x, SlowScale y, String name, int n) {
        check.same(name + ", call " + n, call(y, SlowScale.class, name, n),
                call(x, LyingScale.class, name, n));
    }

    private static String call(Object object, Class<?> kind, String name, int n) {
        String[] names = face.get(name);
        Class<?>[] types = new Class<?>[names.length];
        Object[] values = new Object[names.length];
        for (int i = 0; i < names.length; i++) {
            types[i] = int.class;
            values[i] = argument(names[i], n);
        }
        try {
            Method method = kind.getDeclaredMethod(name, types);
            return String.valueOf(method.invoke(object, values));
        } catch (InvocationTargetException e) {
            return "throws." + e.getCause().getClass().getSimpleName();
        } catch (ReflectiveOperationException e) {
            throw new IllegalStateException(e);
        }
    }

    private static int argument(String name, int n) {
        switch (name) {
            case "left":
                return 1 << n % 8;
            case "right":
                return 1 << (n + 1 + n / 8 % 7) % 8;
            case "coins":
                return 2 + n % 15;
            case "answer", "lies":
                return n * 7 / 3 % 3;
            case "weighings":
                return n % 21;
            case "what":
                return n % 9;
            case "value":
                return "a/b?;".charAt(n % 5);
            case "answers":
                return n % 27;
            case "b":
                return n * 5 % 17;
            default:
                return n % 17;
        }
    }

    private static void nothingOfObject() {
        Set<String> names = new TreeSet<>();
        for (Method method : LyingScale.class.getDeclaredMethods()) {
            names.add(method.getName());
        }
        check.same("the class writes no toString, equals and hashCode of its own", false,
                names.contains("toString") || names.contains("equals")
                        || names.contains("hashCode"));
    }

    private static void alone() {
        LyingScale x = Fixtures.busy();
        LyingScale y = new LyingScale();
        String before = Fixtures.seen(y);
        x.tell(1, 2, 0);
        x.undo();
        x.begin(16);
        x.carryOut();
        check.same("another object is not touched", before, Fixtures.seen(y));
        check.same("its text is empty", 0, y.clearText());
    }

    /** What they answer is free; but they end, and throw nothing that the document does not list. */
    private static void afterTheLastCall() {
        LyingScale x = Fixtures.busy();
        int strange = 0;
        for (int n = 0; n < 20 * CALLS; n++) {
            for (String name : face.keySet()) {
                String outcome = call(x, LyingScale.class, name, n * 31 + name.length());
                strange += outcome.matches("-?[0-9.E-]+|true|false|"
                        + "throws\\.(IllegalArgument|IllegalState|IndexOutOfBounds)Exception")
                        ? 0 : 1;
            }
        }
        check.same("strange outcomes", 0, strange);
    }
}
