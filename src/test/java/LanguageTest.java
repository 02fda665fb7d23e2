import java.nio.file.Files;
import java.nio.file.Path;
import java.util.List;
import java.util.regex.Matcher;
import java.util.regex.Pattern;

/** What of ../shared/LANGUAGE.md can be seen in the text of the class. */
public final class LanguageTest {
    private static final List<String> RULED_OUT = List.of(
            "->", "::", "\\w+Exact\\b", "\\bcatch\\b", "\\bfinally\\b", "\\bsynchronized\\b", "\\bassert\\b",
            "\\bpackage\\b", "\\bprotected\\b", "\" \\+|\\+ \"", "Object\\b", "\\bvar\\b", "@");

    private LanguageTest() {
    }

    public static void main(String[] args) throws Exception {
        Check check = new Check();
        List<String> lines = Files.readAllLines(Path.of("src/main/java/Cycleworks.java"));
        int classes = 0;
        String head = null;
        int headAt = 0;
        for (int i = 0; i < lines.size(); i++) {
            String line = lines.get(i);
            String where = "line " + (i + 1) + ": " + line.trim();
            check.is(where + " has ASCII alone", line.chars().allMatch(c -> c < 128), true);
            check.is(where + " is short", line.length() <= 120, true);
            if (line.trim().startsWith("/**") || line.trim().startsWith("//")) {
                continue;
            }
            for (String pattern : RULED_OUT) {
                check.is(where + " keeps to the language: " + pattern, Pattern.compile(pattern).matcher(line).find(),
                        false);
            }
            if (line.startsWith("import")) {
                check.is(where + " is in the library", line.matches(
                        "import java\\.util\\.(Arrays|NoSuchElementException);"), true);
            }
            if (line.contains("throw ")) {
                Matcher written = Pattern.compile("throw new \\w+\\((\"[^\"]*\")?\\);").matcher(line);
                check.is(where + " throws a written text", written.find(), true);
            }
            if (line.contains(" class ")) {
                classes++;
            }
            if (line.endsWith("{") && !line.contains("class") && (indent(line) == 4 || indent(line) == 8)
                    && line.contains("(") && !line.trim().matches("(if|for|while|switch|else|\\}).*")) {
                head = line;
                headAt = i;
            }
            if (head != null && line.trim().equals("}") && indent(line) == indent(head)) {
                check.is(head.trim() + " is at most 60 lines long", i - headAt < 60, true);
                head = null;
            }
        }
        check.is("at most 12 classes", classes <= 12, true);
        check.end();
    }

    private static int indent(String line) {
        return line.length() - line.stripLeading().length();
    }
}
