import java.io.IOException;
import java.nio.file.DirectoryStream;
import java.nio.file.Files;
import java.nio.file.Path;
import java.util.ArrayList;
import java.util.List;
import java.util.regex.Matcher;
import java.util.regex.Pattern;

/** Each sentence of the document is held by a test: its words stand in a call of Check.holds. */
public final class SentencesTest {
    private static final Path TESTS = Path.of("src/test/java");
    private static final Pattern HOLDS = Pattern.compile(
        "Check\\.holds\\(\"([^\"]+)\",\\s*((?:\"(?:[^\"\\\\]|\\\\.)*\"[\\s+]*)+)\\);");
    private static final Pattern LITERAL = Pattern.compile("\"((?:[^\"\\\\]|\\\\.)*)\"");
    private static final int FEWEST_SIGNS = 8;

    /** They ask for nothing, or only head a list whose lines are held one by one. */
    private static final List<String> ASK_NOTHING = List.of(
        "A parcel sorter: carriers on a loop,", "The grammar of plans is, with terminals in quotes:");

    public static void main(String[] args) throws IOException {
        List<String[]> held = held();
        Check.yes("tests hold many sentences", held.size() > 150);
        for (String[] words : held) {
            Check.yes(words[0] + " says: " + words[1], Document.hasIn(words[0], words[1]));
            Check.yes("long enough: " + words[1], words[1].length() >= FEWEST_SIGNS);
        }
        int sentences = 0;
        for (String part : Document.parts()) {
            for (String sentence : Document.sentences(part)) {
                sentences++;
                Check.yes("a test holds, of " + part + ": " + sentence,
                    asksNothing(sentence) || isHeld(part, sentence, held));
            }
        }
        Check.yes("the document was read", sentences > 150);
        Check.end();
    }

    /** Arguments that are told by their names alone have their ranges in other sentences. */
    private static boolean asksNothing(String sentence) {
        for (String start : ASK_NOTHING) {
            if (sentence.startsWith(start)) {
                return true;
            }
        }
        return sentence.startsWith("- `") && !sentence.matches(".*[0-9].*");
    }

    private static boolean isHeld(String part, String sentence, List<String[]> held) {
        for (String[] words : held) {
            if (words[0].equals(part) && sentence.contains(words[1])) {
                return true;
            }
        }
        return false;
    }

    private static List<String[]> held() throws IOException {
        List<String[]> held = new ArrayList<>();
        try (DirectoryStream<Path> files = Files.newDirectoryStream(TESTS, "*EdgeTest.java")) {
            for (Path file : files) {
                Matcher call = HOLDS.matcher(Files.readString(file));
                while (call.find()) {
                    held.add(new String[] {call.group(1), joined(call.group(2))});
                }
            }
        }
        return held;
    }

    private static String joined(String literals) {
        StringBuilder text = new StringBuilder();
        Matcher literal = LITERAL.matcher(literals);
        while (literal.find()) {
            text.append(literal.group(1).replace("\\\"", "\""));
        }
        return text.toString();
    }
}
