import java.io.IOException;
import java.lang.reflect.Method;
import java.lang.reflect.Modifier;
import java.net.URL;
import java.net.URLClassLoader;
import java.nio.charset.StandardCharsets;
import java.nio.file.DirectoryStream;
import java.nio.file.Files;
import java.nio.file.Path;
import java.util.ArrayList;
import java.util.List;
import java.util.Set;
import java.util.TreeSet;
import java.util.regex.Matcher;
import java.util.regex.Pattern;
import javax.tools.JavaCompiler;
import javax.tools.ToolProvider;

/** README.md: each answer that it shows is the one that the class gives; it names each call and each test. */
public final class ReadmeTest {
    private static final Check CHECK = new Check();
    private static final Path TESTS = Path.of("src/test/java");
    /** A call in a row of its own, with what is said behind it. */
    private static final Pattern CALL = Pattern.compile("((?:x\\.\\w+|tell)\\(.*?\\));(?:\\s*//\\s*(.*))?");
    private static final Pattern ANSWER = Pattern.compile("(-?\\d+|true|false|throws \\w+): \\S.*");

    private final List<String> calls = new ArrayList<>();
    private final List<String> shown = new ArrayList<>();
    private final StringBuilder helpers = new StringBuilder();
    private final StringBuilder blocks = new StringBuilder();

    public static void main(String[] args) throws Exception {
        String page = Files.readString(Path.of("README.md"), StandardCharsets.UTF_8);
        ReadmeTest test = new ReadmeTest();
        test.readBlocks(page);
        test.compare();
        namesCalls(page);
        namesTests(page);
        CHECK.end();
    }

    private void readBlocks(String page) {
        Matcher blocksOfCode = Pattern.compile("(?s)```java\n(.*?)```").matcher(page);
        while (blocksOfCode.find()) {
            String block = blocksOfCode.group(1);
            if (block.startsWith("static ")) {
                helpers.append(block);
            } else {
                blocks.append("{\n");
                for (String row : block.split("\n")) {
                    readRow(row.strip());
                }
                blocks.append("}\n");
            }
        }
        CHECK.due("the page shows answers", calls.size() > 50, true);
    }

    private void readRow(String row) {
        Matcher call = CALL.matcher(row);
        if (!call.matches() || call.group(1).equals("x.image()")) {
            blocks.append(row).append('\n');
            return;
        }
        Matcher answer = ANSWER.matcher(call.group(2) == null ? "" : call.group(2));
        CHECK.due("an answer is shown in: " + row, answer.matches(), true);
        calls.add(call.group(1));
        shown.add(answer.matches() ? answer.group(1) : "none");
        blocks.append("try { answers.add(String.valueOf(").append(call.group(1)).append(")); }\n");
        blocks.append("catch (java.util.NoSuchElementException | IllegalArgumentException e) ");
        blocks.append("{ answers.add(\"throws \" + e.getClass().getSimpleName()); }\n");
    }

    private void compare() throws Exception {
        List<?> answers = run("public final class Shown {\n" + helpers
                + "public static java.util.List<String> all() {\n"
                + "java.util.List<String> answers = new java.util.ArrayList<>();\n" + blocks + "return answers;\n}\n}\n");
        CHECK.due("calls that were answered", answers.size(), calls.size());
        for (int i = 0; i < answers.size() && i < calls.size(); i++) {
            CHECK.same("README.md: " + calls.get(i), String.valueOf(answers.get(i)), shown.get(i));
        }
    }

    /** Compiles what the page shows, as its reader would, and calls it. */
    private static List<?> run(String source) throws Exception {
        Path made = Files.createTempDirectory("readme");
        try {
            Path file = Files.writeString(made.resolve("Shown.java"), source);
            JavaCompiler compiler = ToolProvider.getSystemJavaCompiler();
            int code = compiler == null ? -1 : compiler.run(null, null, null, "-d", made.toString(),
                    "-cp", System.getProperty("java.class.path"), file.toString());
            CHECK.due("what README.md shows compiles: javac", code, 0);
            if (code != 0) {
                return List.of();
            }
            try (URLClassLoader loader = new URLClassLoader(new URL[] {made.toUri().toURL()})) {
                return (List<?>) loader.loadClass("Shown").getMethod("all").invoke(null);
            }
        } finally {
            clear(made);
        }
    }

    private static void clear(Path directory) throws IOException {
        try (DirectoryStream<Path> files = Files.newDirectoryStream(directory)) {
            for (Path file : files) {
                Files.delete(file);
            }
        }
        Files.delete(directory);
    }

    private static void namesCalls(String page) {
        for (Method method : SchemeLister.class.getDeclaredMethods()) {
            if (Modifier.isPublic(method.getModifiers())) {
                CHECK.due("README.md names " + method.getName(), page.contains("`" + method.getName() + "`"), true);
            }
        }
    }

    private static void namesTests(String page) throws IOException {
        Set<String> there = new TreeSet<>();
        try (DirectoryStream<Path> files = Files.newDirectoryStream(TESTS, "*Test.java")) {
            for (Path file : files) {
                there.add(file.getFileName().toString().replace(".java", ""));
            }
        }
        Set<String> named = new TreeSet<>();
        Matcher names = Pattern.compile("`(\\w+Test)`").matcher(page);
        while (names.find()) {
            named.add(names.group(1));
        }
        CHECK.same("the tests that README.md names", named.toString(), there.toString());
    }
}
