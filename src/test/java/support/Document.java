import java.io.IOException;
import java.nio.charset.StandardCharsets;
import java.nio.file.Files;
import java.nio.file.Path;
import java.util.LinkedHashMap;
import java.util.Map;
import java.util.regex.Matcher;
import java.util.regex.Pattern;

/** The document's parts by name, each as one row of words. Started where .ci/run starts it. */
final class Document {
    private static final Path FILE = Path.of("../shared/DOC.md");
    /** Where a part of the terms begins that has a name of its own here. */
    private static final String[][] CUTS = {{"==== 2.", "Terms 2"}, {"ACTS (at most 40", "Acts"}, {"==== 3.", "Terms 3"},
        {"GAME: two take", "Game"}, {"STATUS: how many", "Status"}, {"The constants:", "The constants"}};

    private final Map<String, String> parts = new LinkedHashMap<>();

    Document() throws IOException {
        String all = Files.readString(FILE, StandardCharsets.UTF_8);
        Matcher heads = Pattern.compile("(?m)^## (.*)$").matcher(all);
        String name = "";
        int from = 0;
        while (heads.find()) {
            keep(name, all.substring(from, heads.start()));
            name = heads.group(1).replaceAll(":.*", "");
            from = heads.end();
        }
        keep(name, all.substring(from));
    }

    private void keep(String name, String text) {
        String row = text.replaceAll("```\\w*", " ").replaceAll("\\s+", " ").strip();
        if (name.equals("Terms")) {
            keepTerms(row);
        } else if (name.startsWith("Promise")) {
            parts.put(name, row.substring(row.indexOf("`: ") + 3));
        } else {
            parts.put(name, row);
        }
    }

    private void keepTerms(String row) {
        String name = "Terms 1";
        int from = 0;
        for (String[] cut : CUTS) {
            int at = row.indexOf(cut[0], from);
            if (at < 0) {
                throw new IllegalStateException("the document has changed: no " + cut[0]);
            }
            parts.put(name, bare(row.substring(from, at)));
            name = cut[1];
            from = at;
        }
        parts.put(name, bare(row.substring(from)));
    }

    private static String bare(String row) {
        return row.replaceAll("==== \\d\\.", " ").strip();
    }

    Iterable<String> names() {
        return parts.keySet();
    }

    /** The words of a part; empty if there is no such part. */
    String part(String name) {
        return parts.getOrDefault(name, "");
    }
}
