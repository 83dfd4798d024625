import java.io.IOException;
import java.nio.charset.StandardCharsets;
import java.nio.file.DirectoryStream;
import java.nio.file.Files;
import java.nio.file.Path;
import java.util.ArrayList;
import java.util.List;
import java.util.regex.Matcher;
import java.util.regex.Pattern;

/** Each part of the document that tells how to answer is covered by one of the tests that name its sentences. */
public final class LedgerTest {
    private static final Check CHECK = new Check();
    private static final Path TESTS = Path.of("src/test/java");
    /** Parts that tell what it is about, what the face is (see FaceTest), and what is free. */
    private static final List<String> FREE = List.of("", "What it is", "The public face", "Not promised");

    public static void main(String[] args) throws IOException {
        List<String> covered = new ArrayList<>();
        try (DirectoryStream<Path> files = Files.newDirectoryStream(TESTS, "*Test.java")) {
            for (Path file : files) {
                collect(Files.readString(file, StandardCharsets.UTF_8), covered);
            }
        }
        int promises = 0;
        for (String part : new Document().names()) {
            boolean due = !FREE.contains(part);
            CHECK.due("classes that cover " + part, covered.stream().filter(part::equals).count(), due ? 1 : 0);
            promises += part.startsWith("Promise") ? 1 : 0;
        }
        CHECK.due("promises", promises, 32);
        CHECK.end();
    }

    private static void collect(String source, List<String> covered) {
        Matcher lists = Pattern.compile("(?m)^@Covers\\(\\{([^}]*)\\}\\)").matcher(source);
        while (lists.find()) {
            Matcher names = Pattern.compile("\"([^\"]*)\"").matcher(lists.group(1));
            while (names.find()) {
                covered.add(names.group(1));
            }
        }
    }
}
