import java.io.IOException;
import java.nio.file.Files;
import java.nio.file.Path;
import java.util.regex.Matcher;
import java.util.regex.Pattern;

/** The tests that src/test/SENTENCES.md names are there and are run, and no sentence in it is without one. */
public final class SentencesTest {
    private static final Check CHECK = new Check();
    private static final Pattern NAMED = Pattern.compile("`(\\w+Test)\\.(\\w+)`");

    public static void main(String[] args) throws IOException {
        Path program = Path.of(args.length > 0 ? args[0] : "src/main/java/MeshField.java").toAbsolutePath();
        Path tests = program.getParent().getParent().getParent().resolve("test");
        for (String line : Files.readAllLines(tests.resolve("SENTENCES.md"))) {
            if (line.startsWith("| ") && !line.startsWith("| ---") && !line.startsWith("| the document ")) {
                oneSentence(line, tests.resolve("java"));
            }
        }
        CHECK.end();
    }

    private static void oneSentence(String line, Path tests) throws IOException {
        Matcher named = NAMED.matcher(line);
        int count = 0;
        while (named.find()) {
            count++;
            Path file = tests.resolve(named.group(1) + ".java");
            CHECK.due(named.group() + " is there", Files.exists(file), true);
            if (Files.exists(file)) {
                CHECK.due(named.group() + " is run", isRun(Files.readString(file), named.group(2)), true);
            }
        }
        CHECK.due("a test is named: " + line, count > 0, true);
    }

    private static boolean isRun(String text, String method) {
        boolean told = Pattern.compile("static void " + method + "\\(").matcher(text).find();
        return told && (method.equals("main") || text.contains("        " + method + "();\n"));
    }
}
