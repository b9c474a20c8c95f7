import java.io.File;
import java.io.IOException;
import java.lang.reflect.Method;
import java.nio.file.DirectoryStream;
import java.nio.file.Files;
import java.nio.file.Path;
import java.util.ArrayList;
import java.util.List;
import java.util.regex.Matcher;
import java.util.regex.Pattern;
import java.util.stream.Stream;

/** README.md: the calls that it shows compile and answer as it says, and its ways to run the tests run them. */
public final class ReadmeTest {
    private static final Path TESTS = Path.of("src/test/java");
    private static final Pattern CALL = Pattern.compile("(?:int (\\w+) = )?(.*); +// (answers|throws) (\\S+)");

    public static void main(String[] args) throws Exception {
        String readme = Files.readString(Path.of("README.md"));
        Path out = Files.createTempDirectory("readme");
        try {
            callsAnswer(part(readme, "## How to use it"), out);
            String ways = part(readme, "## How to run its tests");
            theScriptRunsAll(ways);
            oneTestAlone(ways, out);
        } finally {
            remove(out);
        }
        Check.end();
    }

    private static String part(String readme, String title) {
        int start = readme.indexOf(title);
        Check.yes(title, start >= 0);
        int end = readme.indexOf("\n## ", Math.max(0, start));
        return readme.substring(Math.max(0, start), end < 0 ? readme.length() : end);
    }

    private static List<String> shown(String part) {
        List<String> lines = new ArrayList<>();
        for (String line : part.split("\n")) {
            if (line.startsWith("    ")) {
                lines.add(line.strip());
            }
        }
        return lines;
    }

    // ---- the calls

    private static void callsAnswer(String part, Path out) throws Exception {
        StringBuilder code = new StringBuilder("final class Shown {\n    public static void main(String[] args) {\n");
        StringBuilder called = new StringBuilder();
        for (String line : shown(part)) {
            called.append(line);
            code.append("        ").append(checked(line)).append('\n');
        }
        code.append("        Check.end();\n    }\n}\n");
        for (Method method : ParcelSorter.class.getMethods()) {
            if (method.getDeclaringClass() == ParcelSorter.class) {
                Check.yes("shows " + method.getName(), called.indexOf("sorter." + method.getName() + "(") >= 0);
            }
        }
        Path file = out.resolve("Shown.java");
        Files.writeString(file, code);
        String classPath = out + File.pathSeparator + System.getProperty("java.class.path");
        works("javac", "-d", out.toString(), "-cp", classPath, file.toString());
        works("java", "-cp", classPath, "Shown");
    }

    private static void works(String... command) throws Exception {
        Process process = new ProcessBuilder(command).redirectErrorStream(true).start();
        String said = new String(process.getInputStream().readAllBytes());
        Check.same(String.join(" ", command) + ": " + said, 0, process.waitFor());
    }

    /** A line of README.md that says what is answered or thrown, as a check of it; other lines as they are. */
    private static String checked(String line) {
        Matcher call = CALL.matcher(line);
        if (!call.matches()) {
            Check.no("a call without its answer: " + line,
                line.startsWith("sorter.") && !line.startsWith("sorter.feed(text"));
            return line;
        }
        String what = "\"" + line.replace("\\", "\\\\").replace("\"", "\\\"") + "\"";
        String name = call.group(1);
        if (call.group(3).equals("throws")) {
            return "{ String got = \"nothing\"; try { " + call.group(2)
                + "; } catch (RuntimeException e) { got = e.getClass().getSimpleName(); } Check.same(" + what + ", \""
                + call.group(4) + "\", got); }";
        }
        return (name == null ? "" : "int " + name + " = " + call.group(2) + "; ") + "Check.same(" + what + ", \""
            + call.group(4) + "\", \"\" + " + (name == null ? call.group(2) : name) + ");";
    }

    // ---- the tests

    private static void theScriptRunsAll(String part) throws IOException {
        Check.yes("the script is named", shown(part).contains(".ci/run"));
        Check.yes("it can be run", Files.isExecutable(Path.of(".ci/run")));
        List<String> script = Files.readAllLines(Path.of(".ci/run"));
        Check.yes("it runs the tests of the project", script.contains("for file in src/test/java/*Test.java; do"));
        Check.yes("it runs the shared tests", script.contains("for file in ../shared/tests/*.java; do"));
        try (DirectoryStream<Path> files = Files.newDirectoryStream(TESTS, "*.java")) {
            for (Path file : files) {
                String text = Files.readString(file);
                Check.same(file + ": a test if it has a main method, else a helper",
                    "" + file.toString().endsWith("Test.java"),
                    "" + text.contains("\n    public static void main(String[] args)"));
            }
        }
        try (Stream<Path> all = Files.walk(TESTS)) {
            Check.no("tests where the script does not look", all.anyMatch(it -> Files.isDirectory(it) && !it.equals(TESTS)));
        }
        for (String name : part.split("`")) {
            if (name.matches("\\w+Test|\\w+\\.java")) {
                Check.yes(name + " is there", Files.exists(TESTS.resolve(name.replace(".java", "") + ".java")));
            }
        }
    }

    private static void oneTestAlone(String part, Path out) throws Exception {
        int commands = 0;
        for (String line : shown(part)) {
            if (line.startsWith("java")) {
                commands++;
                works(line.replace("/tmp/out", out.resolve("alone").toString()).split(" "));
            }
        }
        Check.same("one command to compile a test, one to run it", 2, commands);
    }

    private static void remove(Path directory) throws IOException {
        try (Stream<Path> all = Files.walk(directory)) {
            for (Path path : all.sorted((a, b) -> b.compareTo(a)).toList()) {
                Files.delete(path);
            }
        }
    }
}
