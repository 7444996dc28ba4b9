import java.io.IOException;
import java.nio.file.Files;
import java.nio.file.Path;
import java.util.ArrayList;
import java.util.BitSet;
import java.util.List;
import java.util.Map;
import java.util.TreeMap;
import java.util.regex.Matcher;
import java.util.regex.Pattern;

/** The document's sentences, and which of them were quoted beside a test: a quote is found word for word. */
final class Sentences {
    private static final Path DOCUMENT = Path.of("../shared/DOC.md");
    private static final int TERMS = 0;
    /** The Terms (0), and each promise by its number, without the headings and the calls' own lines. */
    private final Map<Integer, String> parts = new TreeMap<>();
    private final Map<Integer, BitSet> quoted = new TreeMap<>();
    private String whole = "";

    static Sentences ofDocument() {
        Sentences sentences = new Sentences();
        try {
            if (Files.isReadable(DOCUMENT)) {
                sentences.split(Files.readString(DOCUMENT));
            }
        } catch (IOException e) {
            throw new IllegalStateException(e);
        }
        return sentences;
    }

    boolean isThere() {
        return !parts.isEmpty();
    }

    private void split(String document) {
        whole = document.replaceAll("\\s+", " ");
        for (String section : document.split("\n## ")) {
            Matcher promise = Pattern.compile("^Promise (\\d+): \\w+\n|^Promise (1): A new object\n").matcher(section);
            if (section.startsWith("Terms\n")) {
                keep(TERMS, section.substring(6).replaceAll("```text|```", " ").replaceAll("==== \\d", " "));
            } else if (promise.find()) {
                int number = Integer.parseInt(promise.group(1) != null ? promise.group(1) : promise.group(2));
                keep(number, section.substring(promise.end()).replaceFirst("^\\s*`[^`]*`:", ""));
            }
        }
    }

    private void keep(int part, String text) {
        parts.put(part, text.replaceAll("\\s+", " ").trim());
        quoted.put(part, new BitSet());
    }

    int promises() {
        return parts.size() - 1;
    }

    /** Marks a quote of a promise's own words, or of the Terms; answers whether the document has it. */
    boolean quote(int promise, String sentence) {
        return mark(promise, sentence) || mark(TERMS, sentence) || whole.contains(sentence);
    }

    private boolean mark(int part, String sentence) {
        String text = parts.getOrDefault(part, "");
        int at = text.indexOf(sentence);
        boolean found = at >= 0;
        while (at >= 0) {
            quoted.get(part).set(at, at + sentence.length());
            at = text.indexOf(sentence, at + 1);
        }
        return found;
    }

    /** All that has words and was not quoted. */
    List<String> unquoted() {
        List<String> all = new ArrayList<>();
        for (Map.Entry<Integer, String> part : parts.entrySet()) {
            BitSet marked = quoted.get(part.getKey());
            String text = part.getValue();
            for (int from = marked.nextClearBit(0); from < text.length();) {
                int to = marked.nextSetBit(from) < 0 ? text.length() : marked.nextSetBit(from);
                String piece = text.substring(from, to);
                if (piece.matches("(?s).*\\w.*")) {
                    all.add((part.getKey() == TERMS ? "Terms" : "promise " + part.getKey()) + ": " + piece);
                }
                from = marked.nextClearBit(to);
            }
        }
        return all;
    }
}
