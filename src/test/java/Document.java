import java.io.IOException;
import java.nio.file.Files;
import java.nio.file.Path;
import java.util.ArrayList;
import java.util.LinkedHashMap;
import java.util.List;
import java.util.Map;

/**
 * The sections of the document, and what of them the tests have quoted: so a test can't name a
 * sentence that is not there, and no sentence of a promise or a term stays without a test.
 */
final class Document {
    private final Map<String, String> texts = new LinkedHashMap<>();
    private final Map<String, boolean[]> quoted = new LinkedHashMap<>();

    /** A document of which nothing is asked. */
    Document() {}

    static Document at(Path file) throws IOException {
        Document document = new Document();
        for (String section : Files.readString(file).split("\n## ")) {
            int end = section.indexOf('\n');
            if (end >= 0) {
                document.add(section.substring(0, end).trim(), section.substring(end));
            }
        }
        return document;
    }

    private void add(String heading, String text) {
        String plain = text.replace("```text", " ").replace("```", " ").replaceAll("\\s+", " ").trim();
        // A promise begins with the call that it is about, which is no sentence.
        int call = heading.startsWith("Promise") ? plain.indexOf("`: ") : -1;
        String words = call < 0 ? plain : plain.substring(call + 3);
        texts.put(heading, words);
        quoted.put(heading, new boolean[words.length()]);
    }

    /** Whether the section has these words. */
    boolean quote(String heading, String words) {
        if (texts.isEmpty()) {
            return true;
        }
        String text = texts.getOrDefault(heading, "");
        int from = text.indexOf(words);
        for (int k = from; from >= 0 && k < from + words.length(); k++) {
            quoted.get(heading)[k] = true;
        }
        return from >= 0;
    }

    /** Of each promise and of the terms the words that no test has quoted. */
    List<String> notQuoted() {
        List<String> left = new ArrayList<>();
        for (String heading : texts.keySet()) {
            if (heading.startsWith("Promise") || heading.equals("Terms")) {
                String words = notQuotedIn(heading);
                if (!words.isEmpty()) {
                    left.add(heading + ": " + words);
                }
            }
        }
        return left;
    }

    private String notQuotedIn(String heading) {
        String text = texts.get(heading);
        StringBuilder words = new StringBuilder();
        for (int k = 0; k < text.length(); k++) {
            words.append(quoted.get(heading)[k] ? ' ' : text.charAt(k));
        }
        return words.toString().replaceAll("[ .,;:()]+", " ").replaceAll("\\b(and|or)\\b", " ").trim();
    }
}
