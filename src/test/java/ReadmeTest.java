import java.io.File;
import java.io.IOException;
import java.net.URL;
import java.net.URLClassLoader;
import java.nio.file.Files;
import java.nio.file.Path;
import java.util.ArrayList;
import java.util.List;
import java.util.Map;
import java.util.TreeMap;
import java.util.regex.Matcher;
import java.util.regex.Pattern;
import javax.tools.ToolProvider;

/** README.md: its example answers as it says, and its tables have each call of the document. */
public final class ReadmeTest {
    private static final Check check = new Check("ReadmeTest");
    private static final Pattern CALL =
            Pattern.compile("(scale\\..*);\\s+// (throws \\w+|[^\\s:]+)(: .*)?");
    private static final Map<String, String> SHORT = Map.of("IllegalArgumentException", "Argument",
            "IllegalStateException", "State", "IndexOutOfBoundsException", "Index");

    private ReadmeTest() {
    }

    public static void main(String[] args) throws IOException, ReflectiveOperationException {
        if (args.length < 3) {
            System.out.println("usage: ReadmeTest DOC.md LyingScale.java README.md");
            System.exit(1);
        }
        String document = Files.readString(Path.of(args[0]));
        String readme = Files.readString(Path.of(args[2]));
        example(readme);
        tables(document, readme);
        tests(Path.of(args[2]).toAbsolutePath().getParent().resolve("src/test/java"), readme);
        check.close();
    }

    private static void example(String readme) throws IOException, ReflectiveOperationException {
        check.begin("example");
        List<String> calls = new ArrayList<>();
        List<String> due = new ArrayList<>();
        StringBuilder body = new StringBuilder();
        for (String line : block(readme).split("\n")) {
            Matcher call = CALL.matcher(line.strip());
            if (call.matches()) {
                calls.add(call.group(1));
                due.add(call.group(2));
                body.append(asked(call.group(1)));
            } else {
                check.same("a comment without a call: " + line, false, line.contains("//"));
                body.append(line).append('\n');
            }
        }
        List<?> answers = run(body.toString());
        check.same("calls of the example", true, calls.size() > 30);
        check.same("answers", calls.size(), answers.size());
        for (int i = 0; i < Math.min(calls.size(), answers.size()); i++) {
            check.same(calls.get(i), due.get(i), answers.get(i));
        }
    }

    private static String block(String readme) {
        int start = readme.indexOf("```java\n") + "```java\n".length();
        return readme.substring(start, readme.indexOf("```", start));
    }

    private static String asked(String call) {
        return "try { answers.add(String.valueOf(" + call + ")); }\n"
                + "catch (RuntimeException e) { answers.add(\"throws \""
                + " + e.getClass().getSimpleName()); }\n";
    }

    private static List<?> run(String body) throws IOException, ReflectiveOperationException {
        Path room = Files.createTempDirectory("readme");
        Path file = room.resolve("ReadmeExample.java");
        Path made = room.resolve("ReadmeExample.class");
        try {
            Files.writeString(file, "public final class ReadmeExample {\n"
                    + "public static java.util.List<String> answers() {\n"
                    + "java.util.List<String> answers = new java.util.ArrayList<>();\n"
                    + body + "return answers;\n}\n}\n");
            int failed = ToolProvider.getSystemJavaCompiler().run(null, null, null, "-d",
                    room.toString(), "-cp", System.getProperty("java.class.path"),
                    file.toString());
            check.same("the example compiles", 0, failed);
            return failed == 0 ? answers(room) : List.of();
        } finally {
            Files.deleteIfExists(file);
            Files.deleteIfExists(made);
            Files.deleteIfExists(room);
        }
    }

    private static List<?> answers(Path room) throws IOException, ReflectiveOperationException {
        URL[] rooms = {room.toUri().toURL()};
        try (URLClassLoader loader = new URLClassLoader(rooms)) {
            return (List<?>) loader.loadClass("ReadmeExample").getMethod("answers").invoke(null);
        }
    }

    /** A row of README.md for each call: its arguments, its star, and its exceptions in order. */
    private static void tables(String document, String readme) {
        check.begin("tables");
        Map<String, String> want = new TreeMap<>();
        int start = document.indexOf("```java");
        String block = document.substring(start, document.indexOf("```", start + 3));
        Matcher row = Pattern.compile("(?m)^    public \\w+ (\\w+)\\((.*?)\\)(.*);$")
                .matcher(block);
        while (row.find()) {
            String call = row.group(1) + "(" + row.group(2).replaceAll("\\w+ (\\w+)", "$1") + ")";
            want.put(call, (isUndoable(document, row.group(1)) ? "*" : "") + thrown(row.group(3)));
        }
        Map<String, String> got = new TreeMap<>();
        Matcher line = Pattern.compile("(?m)^\\| `(\\w+\\(.*?\\))`( \\*)? \\|.*\\| ?([^|]*)\\|$")
                .matcher(readme);
        while (line.find()) {
            List<String> names = new ArrayList<>();
            Matcher name = Pattern.compile("`(Argument|State|Index)`").matcher(line.group(3));
            while (name.find()) {
                names.add(name.group(1));
            }
            got.put(line.group(1), (line.group(2) == null ? "" : "*") + names);
        }
        check.same("calls of the face", 28, want.size());
        check.same("rows", want.keySet(), got.keySet());
        for (String call : want.keySet()) {
            check.same("star and exceptions of " + call, want.get(call), got.get(call));
        }
    }

    private static boolean isUndoable(String document, String name) {
        Matcher section = Pattern.compile("(?s)\n## Promise \\d+: " + name + "\n(.*?)\n## ")
                .matcher(document);
        return section.find() && section.group(1).contains("Undoable");
    }

    private static List<String> thrown(String rest) {
        List<String> names = new ArrayList<>();
        for (String name : rest.replace("throws", "").strip().split(",\\s*")) {
            if (!name.isEmpty()) {
                names.add(SHORT.get(name));
            }
        }
        return names;
    }

    private static void tests(Path room, String readme) {
        check.begin("tests");
        File[] files = room.toFile().listFiles((dir, name) -> name.endsWith("Test.java"));
        check.same("tests stand in " + room, true, files != null && files.length > 10);
        for (File file : files == null ? new File[0] : files) {
            String name = file.getName().replace(".java", "");
            check.same("README.md names " + name, true, readme.contains("`" + name + "`"));
        }
    }
}
