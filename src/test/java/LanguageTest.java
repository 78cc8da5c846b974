import java.io.IOException;
import java.nio.file.Files;
import java.nio.file.Path;
import java.util.List;
import java.util.regex.Matcher;
import java.util.regex.Pattern;

/** The rules of ../shared/LANGUAGE.md that can be read off the text of the class. */
public final class LanguageTest {
    private static final Check CHECK = new Check();
    private static final String[] FORBIDDEN_WORDS = {"throw", "throws", "try", "catch", "finally", "synchronized", "assert",
        "volatile", "native", "var", "Exception", "Object", "Thread", "Random", "Iterator", "hashCode", "toString",
        "protected", "package", "strictfp"};
    private static final String[] FORBIDDEN_MARKS = {"->", "::", "Exact(", "System.", "@"};

    public static void main(String[] args) throws IOException {
        String path = args.length > 0 ? args[0] : "src/main/java/MeshField.java";
        String text = Files.readString(Path.of(path));
        String code = text.replaceAll("(?s)/\\*.*?\\*/", "").replaceAll("//[^\n]*", "");
        words(code);
        imports(code);
        statics(code);
        parameters(code);
        methodLengths(text);
        CHECK.due("only plain characters", text.chars().allMatch(c -> c < 128), true);
        CHECK.end();
    }

    private static void words(String code) {
        for (String word : FORBIDDEN_WORDS) {
            CHECK.due("the word " + word, Pattern.compile("\\b" + word + "\\b").matcher(code).find(), false);
        }
        for (String mark : FORBIDDEN_MARKS) {
            CHECK.due("the mark " + mark, code.contains(mark), false);
        }
    }

    private static void imports(String code) {
        Matcher m = Pattern.compile("import\\s+([^;]+);").matcher(code);
        List<String> allowed = List.of("java.util.Arrays", "java.util.ArrayList", "java.util.List");
        while (m.find()) {
            CHECK.due("import " + m.group(1), allowed.contains(m.group(1)), true);
        }
    }

    private static void statics(String code) {
        Matcher m = Pattern.compile("static\\s+(?!final)[^;({]*[;=]").matcher(code);
        CHECK.due("a static field that isn't final", m.find(), false);
        CHECK.due("a static block", Pattern.compile("static\\s*\\{").matcher(code).find(), false);
    }

    private static void parameters(String code) {
        Matcher m = Pattern.compile("\\w+\\s+\\w+\\(([^()]*)\\)\\s*\\{").matcher(code);
        while (m.find()) {
            CHECK.due("parameters: " + m.group(1), m.group(1).split(",").length <= 7, true);
        }
    }

    /** A method ends at the first line that closes a brace at the depth at which it began. */
    private static void methodLengths(String text) {
        String[] lines = text.split("\n");
        Pattern head = Pattern.compile("^(\\s+)[\\w\\[\\] ]+\\([^;]*\\{$");
        for (int i = 0; i < lines.length; i++) {
            Matcher m = head.matcher(lines[i]);
            if (!m.find() || lines[i].trim().startsWith("}")) {
                continue;
            }
            int end = i;
            while (end < lines.length && !lines[end].equals(m.group(1) + "}")) {
                end++;
            }
            CHECK.due("lines from " + (i + 1), end - i <= 60, true);
        }
    }
}
