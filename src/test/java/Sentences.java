import java.io.IOException;
import java.nio.file.Files;
import java.nio.file.Path;
import java.util.ArrayList;
import java.util.LinkedHashMap;
import java.util.List;
import java.util.Map;
import java.util.regex.Matcher;
import java.util.regex.Pattern;

/**
 * The sentences of some sections of the document. Each must get a test of its own, and each test must
 * stand behind a sentence: so a sentence that is changed or new in the document is seen.
 */
final class Sentences {
    private static final Pattern TITLE = Pattern.compile(
            "(?m)^## (What it is|Terms|Promise \\d+|Not promised)\\b.*$");
    private static final String HEADINGS = "^(Coins and cases|Weighings|Lies|Knowledge|Bounds|"
            + "Hidden case|Plan|Text|Undo|Exceptions)\\. ";

    private final Check check;
    private final Map<String, List<String>> open = new LinkedHashMap<>();

    Sentences(Check check, String[] args, String... sections) {
        this.check = check;
        String document = read(args);
        for (String section : sections) {
            open.put(section, sentences(body(document, section)));
        }
    }

    private static String read(String[] args) {
        if (args.length == 0) {
            throw new IllegalArgumentException("the path of DOC.md is missing");
        }
        try {
            return Files.readString(Path.of(args[0]));
        } catch (IOException e) {
            throw new IllegalStateException(e);
        }
    }

    private static String body(String document, String section) {
        Matcher title = TITLE.matcher(document);
        while (title.find()) {
            if (title.group(1).equals(section)) {
                int end = document.indexOf("\n## ", title.end());
                return document.substring(title.end(), end < 0 ? document.length() : end);
            }
        }
        throw new IllegalStateException("no section " + section);
    }

    private static List<String> sentences(String body) {
        List<String> sentences = new ArrayList<>();
        for (String line : body.split("\n")) {
            // These tell the comments between the calls, which no call can show.
            if (line.isBlank() || line.startsWith("Ahead of the calls")) {
                continue;
            }
            String text = line.strip().replaceFirst("^`[^`]*\\([^`]*`: ", "")
                    .replaceFirst("^- ", "").replaceFirst(HEADINGS, "");
            for (String sentence : text.split("(?<=[.)])\\s+(?=[A-Z(])")) {
                sentences.add(sentence);
            }
        }
        return sentences;
    }

    /** The test of the first sentence that begins so and has none yet. */
    void says(String section, String start, Runnable test) {
        List<String> sentences = open.get(section);
        for (int i = 0; i < sentences.size(); i++) {
            if (sentences.get(i).startsWith(start)) {
                sentences.remove(i);
                int before = check.count();
                check.begin(section + ", \"" + start + "\"");
                test.run();
                check.same("has checks", true, check.count() > before);
                return;
            }
        }
        check.begin(section);
        check.same("says \"" + start + "\"", true, false);
    }

    void close() {
        for (Map.Entry<String, List<String>> section : open.entrySet()) {
            check.begin(section.getKey());
            check.same("sentences without a test", List.of(), section.getValue());
        }
        check.close();
    }
}
