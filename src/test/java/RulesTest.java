import java.io.IOException;
import java.nio.charset.StandardCharsets;
import java.nio.file.Files;
import java.nio.file.Path;
import java.util.List;
import java.util.regex.Matcher;
import java.util.regex.Pattern;

/** What of LANGUAGE.md can be seen from the text of the class. Started where .ci/run starts it. */
public final class RulesTest {
    private static final Check CHECK = new Check();
    private static final Path MAIN = Path.of("src/main/java/SchemeLister.java");
    private static final String[] BARRED = {"->", "::", "\\btry\\b", "\\bcatch\\b", "\\bfinally\\b", "\\bsynchronized\\b",
        "\\bassert\\b", "\\bvar\\b", "\\bpackage\\b", "\\bSystem\\.(?!arraycopy\\b)", "\\bMath\\.\\w*Exact\\b", "static \\{",
        "\\bThread\\b", "\\bRandom\\b", "\\bprotected\\b", "\\bdouble\\b", "\\bfloat\\b", "\\bhashCode\\b", "\\btoString\\b",
        "\\bInteger\\.valueOf\\b", "\\bArrays\\.(?!fill\\b|copyOf\\b|copyOfRange\\b)", "\\b(?:Object|Map|Set|Optional)\\b"};

    public static void main(String[] args) throws IOException {
        List<String> lines = Files.readAllLines(MAIN, StandardCharsets.ISO_8859_1);
        StringBuilder code = new StringBuilder();
        for (String line : lines) {
            for (int i = 0; i < line.length(); i++) {
                CHECK.due("a sign from 32 to 126 in: " + line, line.charAt(i) >= 32 && line.charAt(i) <= 126, true);
            }
            String bare = line.strip();
            boolean comment = bare.startsWith("/**") || bare.startsWith("*") || bare.startsWith("//");
            code.append(comment ? "" : line).append('\n');
        }
        for (String barred : BARRED) {
            Matcher m = Pattern.compile(barred).matcher(code);
            CHECK.same("no " + barred, m.find() ? m.group() : "", "");
        }
        imports(code);
        thrown(code);
        lengths(code);
        CHECK.end();
    }

    private static void imports(CharSequence code) {
        Matcher m = Pattern.compile("import ([\\w.*]+);").matcher(code);
        while (m.find()) {
            boolean fine = m.group(1).equals("java.util.Arrays") || m.group(1).equals("java.util.NoSuchElementException");
            CHECK.due("import of " + m.group(1), fine, true);
        }
    }

    private static void thrown(CharSequence code) {
        Matcher m = Pattern.compile("\\bthrow\\b[^;]*;").matcher(code);
        while (m.find()) {
            boolean fine = m.group().equals("throw new NoSuchElementException();")
                    || m.group().equals("throw new IllegalArgumentException();");
            CHECK.due(m.group(), fine, true);
        }
    }

    /** Methods of sixty lines and seven parameters at most. */
    private static void lengths(CharSequence code) {
        String[] lines = code.toString().split("\n");
        Pattern head = Pattern.compile("^( {8}| {4})(?! )[\\w\\[\\] ]*\\b(\\w+)\\(([^)]*)\\)[\\w ,]* \\{$");
        for (int i = 0; i < lines.length; i++) {
            Matcher m = head.matcher(lines[i]);
            if (m.matches()) {
                int end = i;
                while (end < lines.length && !lines[end].equals(m.group(1) + "}")) {
                    end++;
                }
                CHECK.due(m.group(2) + " is short", end - i <= 60, true);
                CHECK.due(m.group(2) + " has few parameters", m.group(3).split(",").length <= 7, true);
            }
        }
    }
}
