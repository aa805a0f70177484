import java.io.IOException;
import java.nio.file.Files;
import java.nio.file.Path;
import java.util.List;
import java.util.regex.Matcher;
import java.util.regex.Pattern;

/** The rules of LANGUAGE.md that can be told from the lines of the program alone. */
public final class LanguageTest {
    private static final String[] NEVER = {
        "->", "::", "\\bsynchronized\\b", "\\bassert\\b", "\\bfinally\\b", "\\bpackage\\b",
        "\\bprotected\\b", "Exact\\(", "\\bvolatile\\b", "\\btransient\\b", "\\bnative\\b",
        "static \\{", "\\bThread\\b", "\\bHashMap\\b", "\\bSystem\\b", "\\bfloat\\b",
        "\\bdouble\\b", "\\bcatch\\b"};

    public static void main(String[] args) throws IOException {
        Path source = Path.of(System.getProperty("clauseledger.source",
                "src/main/java/ClauseLedger.java"));
        List<String> lines = Files.readAllLines(source);
        int classes = 0;
        for (int i = 0; i < lines.size(); i++) {
            String code = withoutTexts(lines.get(i));
            for (String never : NEVER) {
                Bench.due("line " + (i + 1) + " has " + never,
                        Pattern.compile(never).matcher(code).find(), false);
            }
            if (code.startsWith("import")) {
                Bench.due("line " + (i + 1), code, "import java.util.Arrays;");
            }
            if (code.matches(".*\\bclass \\w+ \\{")) {
                classes++;
            }
        }
        Bench.due("at most twelve classes, not " + classes, classes <= 12, true);
        checkMethods(lines);
        Bench.end();
    }

    private static String withoutTexts(String line) {
        String trimmed = line.trim();
        if (trimmed.startsWith("*") || trimmed.startsWith("/")) {
            return "";
        }
        return line.replaceAll("\"[^\"]*\"", "\"\"");
    }

    /** Methods stay under sixty lines and take at most seven parameters. */
    private static void checkMethods(List<String> lines) {
        Pattern head = Pattern.compile("^( +)[\\w\\[\\] ]+\\(([^()]*)\\) ?.*");
        for (int i = 0; i < lines.size(); i++) {
            Matcher m = head.matcher(lines.get(i));
            if (!m.matches() || m.group(1).length() > 8 || lines.get(i).endsWith(";")) {
                continue;
            }
            int end = i;
            while (end < lines.size() && !lines.get(end).equals(m.group(1) + "}")) {
                end++;
            }
            Bench.due("length of the method at line " + (i + 1), end - i < 60, true);
            Bench.due("parameters at line " + (i + 1), m.group(2).split(",").length <= 7, true);
        }
    }
}
