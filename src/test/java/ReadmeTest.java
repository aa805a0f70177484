import java.io.ByteArrayOutputStream;
import java.io.IOException;
import java.io.PrintStream;
import java.lang.reflect.Method;
import java.lang.reflect.Modifier;
import java.nio.file.Files;
import java.nio.file.Path;
import java.util.ArrayList;
import java.util.List;
import java.util.Set;
import java.util.TreeSet;
import java.util.regex.Matcher;
import java.util.regex.Pattern;
import java.util.stream.Stream;

/** What README.md says of the class and of its tests is so. */
public final class ReadmeTest {
    private static final Path TESTS = Path.of("src/test/java");

    private static String readme = "";

    public static void main(String[] args) throws IOException, InterruptedException {
        readme = Files.readString(Path.of("README.md"));
        exampleIsTheFile();
        exampleAnswersAsSaid();
        everyCallIsTold();
        everyClassIsTold();
        everyTestIsTold();
        everyPathIsThere();
        commandsRun();
        Bench.end();
    }

    private static void exampleIsTheFile() throws IOException {
        Bench.due("blocks of Java", blocks("java"),
                List.of(Files.readString(TESTS.resolve("Example.java"))));
    }

    private static void exampleAnswersAsSaid() {
        PrintStream before = System.out;
        ByteArrayOutputStream printed = new ByteArrayOutputStream();
        System.setOut(new PrintStream(printed, true));
        try {
            Example.main(new String[0]);
        } finally {
            System.setOut(before);
        }
        Bench.due("what the example prints", blocks("text"),
                List.of(printed.toString().replace("\r\n", "\n")));
    }

    private static void everyCallIsTold() {
        Set<String> face = new TreeSet<>();
        for (Method m : ClauseLedger.class.getDeclaredMethods()) {
            if (Modifier.isPublic(m.getModifiers())) {
                face.add(m.getName() + " of " + m.getParameterCount());
            }
        }
        Set<String> told = new TreeSet<>();
        Matcher m = Pattern.compile("(?m)^\\| `(\\w+)\\(([^)]*)\\)` \\|").matcher(readme);
        while (m.find()) {
            int count = m.group(2).isEmpty() ? 0 : m.group(2).split(", ").length;
            told.add(m.group(1) + " of " + count);
        }
        Bench.due("calls in the tables", told, face);
    }

    private static void everyClassIsTold() {
        Set<String> there = new TreeSet<>(Set.of("ClauseLedger"));
        for (Class<?> inner : ClauseLedger.class.getDeclaredClasses()) {
            there.add(inner.getSimpleName());
        }
        String built = readme.substring(readme.indexOf("## How it is built"),
                readme.indexOf("## How to run the tests"));
        Bench.due("classes by which it is built", found("`([A-Z]\\w*)`", built), there);
    }

    private static void everyTestIsTold() throws IOException {
        Set<String> there = new TreeSet<>();
        try (Stream<Path> files = Files.list(TESTS)) {
            files.forEach(f -> there.add(f.getFileName().toString().replace(".java", "")));
        }
        there.removeIf(name -> !name.endsWith("Test"));
        String table = String.join("\n", found("(?m)^(\\|.*Test`.*)$", readme));
        Bench.due("tests in the table", found("`(\\w+Test)`", table), there);
    }

    private static void everyPathIsThere() {
        for (String path : found("`(src/[\\w./]*)`", readme)) {
            Bench.due(path + " is there", Files.exists(Path.of(path)), true);
        }
    }

    /** But for .ci/run, which runs this test. */
    private static void commandsRun() throws IOException, InterruptedException {
        List<String> commands = blocks("sh");
        Bench.due("the first command", commands.isEmpty() ? "" : commands.get(0), ".ci/run\n");
        for (int i = 1; i < commands.size(); i++) {
            Process shell = new ProcessBuilder("sh", "-e", "-c", commands.get(i))
                    .redirectErrorStream(true).start();
            String printed = new String(shell.getInputStream().readAllBytes());
            Bench.due("exit code after " + printed, shell.waitFor(), 0);
        }
    }

    private static List<String> blocks(String language) {
        List<String> blocks = new ArrayList<>();
        Matcher m = Pattern.compile("(?s)```" + language + "\n(.*?)```").matcher(readme);
        while (m.find()) {
            blocks.add(m.group(1));
        }
        return blocks;
    }

    private static Set<String> found(String pattern, String text) {
        Set<String> found = new TreeSet<>();
        Matcher m = Pattern.compile(pattern).matcher(text);
        while (m.find()) {
            found.add(m.group(1));
        }
        return found;
    }
}
