import java.io.IOException;
import java.nio.file.Files;
import java.nio.file.Path;
import java.util.LinkedHashMap;
import java.util.Map;
import java.util.regex.Matcher;
import java.util.regex.Pattern;

/** The sentences of the document: each is taken by a test of its own, and none may be left in the end. */
final class Sentences {
    private static final Path DOCUMENT = Path.of("../shared/DOC.md");
    private static final Pattern SIGNATURE = Pattern.compile("^`[^`]*`: ");
    // Stands where a sentence was taken, so that none is found across that place.
    private static final String TAKEN = " # ";

    private final Map<String, String> left = new LinkedHashMap<>();
    private String heading = "";

    static Sentences read() throws IOException {
        Sentences sentences = new Sentences();
        for (String section : Files.readString(DOCUMENT).split("(?m)^#+ ")) {
            int end = section.indexOf('\n');
            String heading = end < 0 ? "" : section.substring(0, end).trim();
            if (heading.equals("Terms") || heading.equals("What it is") || heading.startsWith("Promise ")) {
                Matcher body = SIGNATURE.matcher(section.substring(end).replaceAll("\\s+", " ").trim());
                sentences.left.put(heading, body.replaceFirst(""));
            }
        }
        return sentences;
    }

    /** The sentences from now on stand under this heading. */
    void under(String heading) {
        this.heading = heading;
        Check.at("");
        Check.same("the document has " + heading, left.containsKey(heading), true);
    }

    /** The document says this, and the test would fail if it were not so. */
    void says(String sentence, Runnable test) {
        String text = left.getOrDefault(heading, "");
        int from = text.indexOf(sentence);
        Check.at(heading);
        Check.same("it says \"" + sentence + "\"", from >= 0, true);
        if (from >= 0) {
            left.put(heading, text.substring(0, from) + TAKEN + text.substring(from + sentence.length()));
        }
        Check.at(heading + ", \"" + sentence + "\"");
        int made = Check.made();
        Check.same("the test", Check.answer(() -> runs(test)), "ends");
        Check.same("the test checks something", Check.made() > made + 1, true);
        Check.at("");
    }

    void finish() {
        Check.at("");
        for (Map.Entry<String, String> section : left.entrySet()) {
            Check.same("without a test, " + section.getKey(), section.getValue().replace(TAKEN.trim(), "").trim(), "");
        }
    }

    private static String runs(Runnable test) {
        test.run();
        return "ends";
    }
}
