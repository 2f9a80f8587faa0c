import java.io.IOException;
import java.nio.charset.StandardCharsets;
import java.nio.file.Files;
import java.nio.file.Path;
import java.nio.file.Paths;
import java.util.LinkedHashMap;
import java.util.Map;

/**
 * The document's sentences, each told word for word ahead of the answers that are due by it. What is
 * told must stand in the document, what stands there must be told, and no sentence is without an answer.
 */
final class Edge {
    private static final Path DOCUMENT = Paths.get("../shared/DOC.md");
    private static final Map<String, String> PARTS = new LinkedHashMap<>();
    private static final Map<String, boolean[]> TOLD = new LinkedHashMap<>();
    private static boolean isThere = false;
    private static String sentence = "";
    private static int seenAhead = 0;

    private Edge() {
    }

    /** Parts are named as their headings are, up to a colon. */
    static void readDocument() throws IOException {
        isThere = Files.isReadable(DOCUMENT);
        if (!isThere) {
            System.out.println("no " + DOCUMENT + ": the sentences are not looked up there");
            return;
        }
        String whole = new String(Files.readAllBytes(DOCUMENT), StandardCharsets.UTF_8);
        for (String piece : whole.split("(?m)^## ")) {
            int line = piece.indexOf('\n');
            String heading = piece.substring(0, Math.max(line, 0)).replaceAll(":.*", "").trim();
            boolean isFirst = heading.equals("What it is");
            if (isFirst || heading.equals("Terms") || heading.startsWith("Promise ")) {
                String text = plain(isFirst ? lastParagraph(piece) : piece.substring(line));
                PARTS.put(heading, text);
                TOLD.put(heading, new boolean[text.length()]);
            }
        }
        Check.due("parts of the document", PARTS.size(), 45);
    }

    /** What stands ahead of it only names what the other parts tell. */
    private static String lastParagraph(String piece) {
        String text = piece.trim();
        return text.substring(text.lastIndexOf("\n\n") + 1);
    }

    /** The face's own lines, marks of parts and fences are no sentences. */
    private static String plain(String text) {
        return text.replaceAll("(?m)^```.*$", "").replaceAll("`[^`]*`:", "").replaceAll("==== \\d\\.", "")
            .replaceAll("\\s+", " ").trim();
    }

    /** The answers that come now are due by these words of the document. */
    static void says(String part, String words) {
        endSentence();
        sentence = part + ": " + words;
        Check.about(sentence);
        seenAhead = Check.seen();
        if (!isThere) {
            return;
        }
        int at = PARTS.getOrDefault(part, "").indexOf(words);
        if (at < 0) {
            Check.fail("the document does not say it");
            return;
        }
        for (int i = at; i < at + words.length(); i++) {
            TOLD.get(part)[i] = true;
        }
    }

    private static void endSentence() {
        if (!sentence.isEmpty() && Check.seen() == seenAhead) {
            Check.fail("no answer is looked at");
        }
        sentence = "";
    }

    /** To be called last: what no test has told is a fault of the tests. */
    static void allIsTold() {
        endSentence();
        Check.about("");
        for (String part : PARTS.keySet()) {
            StringBuilder rest = new StringBuilder();
            String text = PARTS.get(part);
            for (int i = 0; i < text.length(); i++) {
                rest.append(TOLD.get(part)[i] ? ' ' : text.charAt(i));
            }
            boolean isTold = !rest.toString().matches("(?s).*[A-Za-z0-9].*");
            Check.due("all of " + part + " is told, but: " + rest.toString().replaceAll(" +", " "), isTold, true);
        }
    }
}
