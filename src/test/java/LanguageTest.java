import java.io.IOException;
import java.nio.file.Files;
import java.nio.file.Path;
import java.util.List;
import java.util.Set;
import java.util.regex.Matcher;
import java.util.regex.Pattern;

/** The rules of LANGUAGE.md that can be told from the lines of the program alone. */
public final class LanguageTest {
    private static final Path SOURCE = Path.of("src/main/java/ClauseLedger.java");

    private static final Set<String> IMPORTS = Set.of("Arrays", "ArrayList", "List", "Iterator",
            "NoSuchElementException");

    /** By the number of the rule: what no line of code may have. */
    private static final String[][] NEVER = {
        {"1", "^\\s*package\\b"}, {"1", "\\bprotected\\b"},
        {"2", "^(?!\\s*(case|default)\\b).*->"}, {"2", "::"},
        {"4", "\\b(Math|Integer|Long)\\.\\w*Exact\\("}, {"4", "\\bSystem\\.(?!arraycopy\\()"},
        {"4", "\\b(HashMap|TreeMap|HashSet|LinkedList|Objects|Collections|Optional)\\b"},
        {"5", "\\bstatic\\s*\\{"}, {"5", "\\bstatic (?!final|class|abstract|int|long|boolean|char"
            + "|void|String|[A-Z<])"},
        {"6", "\\b(synchronized|assert|finally|hashCode|getMessage)\\b"},
        {"13", "\\b(Thread|Random|File|Socket|volatile|transient|native)\\b"}};

    public static void main(String[] args) throws IOException {
        List<String> lines = Files.readAllLines(SOURCE);
        int classes = 0;
        for (int i = 0; i < lines.size(); i++) {
            String code = codeOf(lines.get(i));
            for (String[] never : NEVER) {
                Bench.due("line " + (i + 1) + " against rule " + never[0],
                        Pattern.compile(never[1]).matcher(code).find(), false);
            }
            if (code.startsWith("import")) {
                Matcher m = Pattern.compile("import java\\.util\\.(\\w+);").matcher(code);
                Bench.due("line " + (i + 1) + " against rule 4",
                        m.matches() && IMPORTS.contains(m.group(1)), true);
            }
            if (code.matches(".*\\b(class|enum|record|interface) \\w+.*\\{")) {
                classes++;
            }
        }
        Bench.due("rule 11: some twelve classes, not " + classes, classes <= 14, true);
        checkThrows(lines);
        checkMethods(lines);
        Bench.end();
    }

    private static String codeOf(String line) {
        String trimmed = line.trim();
        if (trimmed.startsWith("*") || trimmed.startsWith("/")) {
            return "";
        }
        return line.replaceAll("\"[^\"]*\"", "\"\"");
    }

    /** Rule 6: throw new E() or throw new E("a written text"), E one of seven. */
    private static void checkThrows(List<String> lines) {
        String form = "\\s*throw new (IllegalState|IllegalArgument|IndexOutOfBounds|Arithmetic"
                + "|UnsupportedOperation|Runtime)Exception\\((\"\")?\\);"
                + "|\\s*throw new NoSuchElementException\\((\"\")?\\);";
        for (int i = 0; i < lines.size(); i++) {
            String code = codeOf(lines.get(i));
            if (code.matches(".*\\bthrow\\b.*")) {
                Bench.due("line " + (i + 1) + " against rule 6", code.matches(form), true);
            }
        }
    }

    /** Rule 11: methods have some sixty lines and take at most seven parameters. */
    private static void checkMethods(List<String> lines) {
        Pattern head = Pattern.compile("^( +)[\\w\\[\\] ]+\\(([^()]*)\\) ?.*");
        for (int i = 0; i < lines.size(); i++) {
            Matcher m = head.matcher(lines.get(i));
            if (!m.matches() || m.group(1).length() > 8 || lines.get(i).endsWith(";")) {
                continue;
            }
            int end = i;
            while (end < lines.size() && !lines.get(end).equals(m.group(1) + "}")) {
                end++;
            }
            Bench.due("length of the method at line " + (i + 1), end - i < 65, true);
            Bench.due("parameters at line " + (i + 1), m.group(2).split(",").length <= 7, true);
        }
    }
}
