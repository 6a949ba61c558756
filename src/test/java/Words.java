import java.io.IOException;
import java.nio.charset.StandardCharsets;
import java.nio.file.Files;
import java.nio.file.Path;
import java.util.ArrayList;
import java.util.List;
import java.util.Map;
import java.util.TreeMap;

/** The document's own words: what a test quotes has to stand there, and what no test quotes is told. */
final class Words {
    private static final int TERMS = 0;
    private final Map<Integer, String> sections = new TreeMap<>();
    private final Map<Integer, boolean[]> quoted = new TreeMap<>();

    Words(Path document) throws IOException {
        Map<Integer, StringBuilder> read = new TreeMap<>();
        StringBuilder section = null;
        for (String line : Files.readAllLines(document, StandardCharsets.UTF_8)) {
            if (line.startsWith("## ")) section = begun(line, read);
            else if (section != null && !line.startsWith("```") && !line.startsWith("Ahead of the calls")) {
                section.append(line.replaceFirst("^`[^`]*`: ", "").replaceFirst("^=+ \\d ", "")).append(' ');
            }
        }
        for (Map.Entry<Integer, StringBuilder> e : read.entrySet()) {
            sections.put(e.getKey(), plain(e.getValue().toString()));
            quoted.put(e.getKey(), new boolean[sections.get(e.getKey()).length()]);
        }
    }

    private static StringBuilder begun(String heading, Map<Integer, StringBuilder> read) {
        if (heading.equals("## Terms")) return read.computeIfAbsent(TERMS, n -> new StringBuilder());
        if (!heading.startsWith("## Promise ")) return null;
        int number = Integer.parseInt(heading.replaceFirst("## Promise (\\d+):.*", "$1"));
        return read.computeIfAbsent(number, n -> new StringBuilder());
    }

    private static String plain(String text) { return text.replaceAll("\\s+", " ").trim(); }

    int promises() { return sections.size() - 1; }

    /** Whether the words stand in the promise, or in the Terms. */
    boolean quote(int promise, String words) {
        boolean inPromise = mark(promise, plain(words));
        return mark(TERMS, plain(words)) || inPromise;
    }

    private boolean mark(int number, String words) {
        String text = sections.getOrDefault(number, "");
        int found = text.indexOf(words);
        for (int from = found; from >= 0; from = text.indexOf(words, from + 1)) {
            for (int i = 0; i < words.length(); i++) quoted.get(number)[from + i] = true;
        }
        return found >= 0;
    }

    /** Runs of words that no test has quoted, signs between words left out. */
    List<String> neverQuoted() {
        List<String> left = new ArrayList<>();
        for (int number : sections.keySet()) {
            String text = sections.get(number);
            StringBuilder s = new StringBuilder();
            for (int i = 0; i <= text.length(); i++) {
                if (i < text.length() && !quoted.get(number)[i]) {
                    s.append(text.charAt(i));
                    continue;
                }
                if (s.chars().anyMatch(Character::isLetterOrDigit)) left.add((number == TERMS ? "Terms" : "promise " + number) + ": " + s);
                s.setLength(0);
            }
        }
        return left;
    }
}
