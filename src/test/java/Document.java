import java.io.IOException;
import java.nio.file.Files;
import java.nio.file.Path;
import java.util.ArrayList;
import java.util.LinkedHashMap;
import java.util.List;
import java.util.Map;

/** ../shared/DOC.md, cut into parts and these into sentences, so that a test can say which sentence it holds. */
final class Document {
    private static final Path FILE = Path.of("../shared/DOC.md");
    private static final String[] DESCRIBED = {
        "Loop", "Parcels", "Chutes", "Plans", "Ticks", "Scanning", "Trying", "Verdicts", "Undo", "Exceptions"};
    private static final Map<String, List<String>> PARTS = read();

    /** The names of the parts: those of the description by their first word, the promises by their numbers. */
    static Iterable<String> parts() {
        return PARTS.keySet();
    }

    static List<String> sentences(String part) {
        return PARTS.getOrDefault(part, List.of());
    }

    static boolean hasIn(String part, String words) {
        for (String sentence : sentences(part)) {
            if (sentence.contains(words)) {
                return true;
            }
        }
        return false;
    }

    private static Map<String, List<String>> read() {
        Map<String, List<String>> parts = new LinkedHashMap<>();
        for (String section : text().split("\n## ")) {
            String title = section.substring(0, section.indexOf('\n'));
            String body = section.substring(section.indexOf('\n') + 1);
            if (title.startsWith("Promise ")) {
                parts.put(title.substring("Promise ".length(), title.indexOf(':')), cut(body));
            } else if (title.equals("Description")) {
                describe(body, parts);
            } else if (title.equals("What it is")) {
                parts.put(title, cut(body));
            }
        }
        return parts;
    }

    private static String text() {
        try {
            return Files.readString(FILE);
        } catch (IOException e) {
            throw new IllegalStateException("cannot read " + FILE, e);
        }
    }

    private static void describe(String body, Map<String, List<String>> parts) {
        int start = body.indexOf(DESCRIBED[0] + ". ");
        for (int i = 0; i < DESCRIBED.length; i++) {
            int begin = start + DESCRIBED[i].length() + 2;
            boolean isLast = i == DESCRIBED.length - 1;
            start = isLast ? body.indexOf("\n\n", begin) : body.indexOf(DESCRIBED[i + 1] + ". ", begin);
            parts.put(DESCRIBED[i], cut(body.substring(begin, start)));
        }
    }

    /** Lines of a list stand for themselves; other lines are text that goes on in the next line. */
    private static List<String> cut(String body) {
        List<String> sentences = new ArrayList<>();
        StringBuilder text = new StringBuilder();
        for (String line : body.split("\n")) {
            boolean isItem = line.startsWith("  ") || line.startsWith("- ") || line.startsWith("`");
            if (isItem || line.isEmpty()) {
                addSentences(text.toString(), sentences);
                text.setLength(0);
            }
            if (isItem && !line.startsWith("`")) {
                addSentences(line, sentences);
            } else if (!isItem && !line.startsWith("----")) {
                text.append(line).append(' ');
            }
        }
        addSentences(text.toString(), sentences);
        return sentences;
    }

    private static void addSentences(String text, List<String> sentences) {
        String plain = text.trim().replaceAll("\\s+", " ").replaceAll("^[0-9]\\. ", "");
        for (String sentence : plain.split("(?<=\\.) (?=[A-Z])")) {
            if (!sentence.isEmpty()) {
                sentences.add(sentence);
            }
        }
    }
}
