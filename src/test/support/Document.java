import java.io.IOException;
import java.io.UncheckedIOException;
import java.nio.file.Files;
import java.nio.file.Path;
import java.util.ArrayList;
import java.util.LinkedHashMap;
import java.util.List;
import java.util.Map;

/** The passages of the document, and which of their sentences have been named. */
final class Document {
    private static final Path FILE = Path.of("..", "shared", "DOC.md");
    /** How the passages of 'Terms' begin; those of a promise are named by their heading. */
    private static final String[] TERMS = {"OBJECTS 0", "AN INSTRUCTION", "TO LINK", "THE IMAGE", "TO RUN"};

    private static final Map<String, String> PASSAGES = passages();
    private static final Map<String, boolean[]> NAMED = new LinkedHashMap<>();

    private Document() {
    }

    /** Whether a passage has this sentence, which then counts as named. */
    static boolean name(String passage, String sentence) {
        String text = PASSAGES.getOrDefault(passage, "");
        boolean[] named = NAMED.computeIfAbsent(passage, p -> new boolean[text.length()]);
        int at = text.indexOf(sentence);
        for (int i = at; i >= 0 && i < at + sentence.length(); i++) {
            named[i] = true;
        }
        return at >= 0;
    }

    /** What no test has named, of all passages. */
    static List<String> unnamed() {
        List<String> left = new ArrayList<>();
        for (Map.Entry<String, String> passage : PASSAGES.entrySet()) {
            String text = passage.getValue();
            boolean[] named = NAMED.getOrDefault(passage.getKey(), new boolean[text.length()]);
            StringBuilder rest = new StringBuilder();
            for (int i = 0; i < text.length(); i++) {
                rest.append(named[i] ? ' ' : text.charAt(i));
            }
            if (!rest.toString().isBlank()) {
                left.add(passage.getKey() + ": " + folded(rest.toString()));
            }
        }
        return left;
    }

    private static Map<String, String> passages() {
        Map<String, String> found = new LinkedHashMap<>();
        for (String section : textOfFile().split("(?m)^## ")) {
            String heading = section.lines().findFirst().orElse("");
            String body = folded(section.substring(heading.length()).replaceAll("(?m)^```.*$", ""));
            if (heading.equals("Terms")) {
                splitTerms(body, found);
            } else if (heading.startsWith("Promise ")) {
                // The call itself, between the marks, is FaceTest's.
                found.put(heading.replaceAll(":.*", ""), folded(body.replaceFirst("^`[^`]*`:", "")));
            } else if (heading.equals("What it is")) {
                found.put(heading, body);
            }
        }
        return found;
    }

    private static void splitTerms(String body, Map<String, String> found) {
        for (int i = 0; i < TERMS.length; i++) {
            int from = i == 0 ? 0 : body.indexOf(TERMS[i]);
            int to = i + 1 < TERMS.length ? body.indexOf(TERMS[i + 1]) : body.length();
            found.put(TERMS[i], folded(body.substring(from, to)));
        }
    }

    private static String textOfFile() {
        try {
            return Files.readString(FILE);
        } catch (IOException e) {
            throw new UncheckedIOException(e);
        }
    }

    private static String folded(String text) {
        return text.replaceAll("\\s+", " ").strip();
    }
}
