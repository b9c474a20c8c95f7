import java.nio.charset.StandardCharsets;
import java.nio.file.Files;
import java.nio.file.Path;
import java.util.List;

/** What of LANGUAGE.md can be read off the text of the class; FaceTest looks at the rest. */
public final class LanguageTest {
    private static final String[] RULED_OUT = {
        "->", "::", "\" +", "+ \"", "instanceof", "catch (", "try {", "finally", "synchronized", "assert", "protected",
        "package ", "static {", "record ", "sealed", "yield", "Exact(", "System.out", "nanoTime", "currentTimeMillis",
        "Random", "Thread", "equals(Object", "hashCode", "toString", "Object", "Map", "Set<", "goto", "while"};

    public static void main(String[] args) throws Exception {
        Path file = Path.of("src/main/java/ParcelSorter.java");
        List<String> lines = Files.readAllLines(file, StandardCharsets.US_ASCII);
        StringBuilder code = new StringBuilder();
        int methodStart = 0;
        for (int i = 0; i < lines.size(); i++) {
            String line = lines.get(i);
            String bare = line.replaceAll("//.*|/\\*\\*.*\\*/", "");
            code.append(bare).append('\n');
            if (line.startsWith("import")) {
                Check.yes(line, line.equals("import java.util.Arrays;")
                    || line.equals("import java.util.NoSuchElementException;"));
            }
            if (line.matches(" {4}( {4})?[\\w<>\\[\\] ]+\\(.*")) {
                methodStart = i;
            }
            if (line.matches(" {4}( {4})?}")) {
                Check.yes("a method of at most 60 lines before line " + (i + 1), methodStart == 0 || i - methodStart < 60);
                methodStart = 0;
            }
            Check.yes("at most 120 signs in line " + (i + 1), line.length() <= 120);
        }
        for (String part : RULED_OUT) {
            Check.no("ruled out: " + part, code.indexOf(part) >= 0);
        }
        Check.same("one public class", 1, code.toString().split("public final class").length - 1);
        Check.end();
    }
}
