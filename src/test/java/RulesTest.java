import java.io.IOException;
import java.nio.file.Files;
import java.nio.file.Path;
import java.util.List;
import java.util.regex.Matcher;
import java.util.regex.Pattern;

/** Those rules of LANGUAGE.md that the source's text shows. It is run in the project's folder. */
public final class RulesTest {
    private static final Check CHECK = new Check("RulesTest");
    private static final Path SOURCE = Path.of("src/main/java/SpareWell.java");

    public static void main(String[] args) throws IOException {
        List<String> lines = Files.readAllLines(SOURCE);
        String code = withoutComments(String.join("\n", lines));
        none(code, "import (?!java\\.util\\.NoSuchElementException;)", "rule 4: another import");
        none(code, "\\b(try|catch|finally|synchronized|assert|double|float|package)\\b", "a word left out");
        none(code, "->|::", "rule 2: a lambda or a method reference");
        none(code, "Exact\\(|System\\.(?!arraycopy)", "rule 4: the library");
        none(code, "static \\{", "rule 5: a static block");
        none(code, "\\bstatic (?!final)(int|long|boolean|char|String)(\\[\\])? \\w+( =|;)", "rule 5: a static field");
        none(code, "throw (?!new (NoSuchElementException|IllegalArgumentException)\\(\"[^\"]*\"\\);)", "rule 6");
        none(code, "\\bwhile \\(true\\)|for \\(;;\\)", "rule 9: a loop without an end");
        rowsAreMadeOnce(code);
        methodsAreShort(code.split("\n"));
        CHECK.end();
    }

    private static String withoutComments(String code) {
        return code.replaceAll("(?s)/\\*.*?\\*/", "").replaceAll("//[^\n]*", "");
    }

    private static void none(String code, String pattern, String rule) {
        Matcher matcher = Pattern.compile(pattern).matcher(code);
        CHECK.same(rule, matcher.find() ? matcher.group() : "nothing", "nothing");
    }

    /** Only fields, which constructors fill, and exceptions are made by new. */
    private static void rowsAreMadeOnce(String code) {
        for (String line : code.split("\n")) {
            if (line.contains("new ")) {
                boolean isField = line.matches(" {4,8}private (final )?[\\w\\[\\]]+ \\w+ = new .*;")
                        || line.matches(" {8}final [\\w\\[\\]]+ \\w+ = new .*;");
                CHECK.same("made once: " + line.trim(), isField || line.contains("throw new ") ? 1 : 0, 1);
            }
        }
    }

    private static void methodsAreShort(String[] lines) {
        int classes = 0;
        int start = -1;
        for (int i = 0; i < lines.length; i++) {
            String line = lines[i];
            classes += line.matches(" *(private static|public) final class .*") ? 1 : 0;
            if (line.matches(" {4,8}(public|private|static|int|long|boolean|void|\\w+)\\b.*\\(.*")
                    && !line.contains(";") && !line.contains(" = ")) {
                start = i;
            }
            if (start >= 0 && line.matches(" {4}( {4})?\\}") && indent(line) == indent(lines[start])) {
                CHECK.same("lines of " + lines[start].trim(), i - start < 60 ? 1 : 0, 1);
                start = -1;
            }
            CHECK.same("parameters: " + line.trim(), line.split(",", -1).length <= 7 ? 1 : 0, 1);
        }
        CHECK.same("classes, " + classes, classes <= 12 ? 1 : 0, 1);
    }

    private static int indent(String line) {
        return line.length() - line.stripLeading().length();
    }
}
