import java.nio.charset.StandardCharsets;
import java.util.ArrayList;
import java.util.Arrays;
import java.util.List;
import java.util.Random;

/** Promise 5, what 9 to 12: schemes that may well be like their dual, against PlainLister, which tries everything. */
public final class DualityTest {
    private static final Check CHECK = new Check();
    private static final int WANTED = 200;

    public static void main(String[] args) {
        Random random = new Random(5);
        int done = 0;
        for (int tries = 0; tries < 1000000 && done < WANTED; tries++) {
            int points = 3 + random.nextInt(6);
            List<Integer> lines = asManyLines(random, points);
            if (lines.size() == points && looksDual(points, lines)) {
                compare(points, lines);
                done++;
            }
        }
        CHECK.due("schemes found", done, WANTED);
        CHECK.end();
    }

    private static List<Integer> asManyLines(Random random, int points) {
        List<Integer> lines = new ArrayList<>();
        int style = random.nextInt(4);
        for (int tries = 0; tries < 80 && lines.size() < points; tries++) {
            int size = Math.min(points, style == 0 ? 2 : style == 1 ? 3 : 2 + random.nextInt(3));
            int line = 0;
            while (Integer.bitCount(line) < size) {
                line |= 1 << random.nextInt(points);
            }
            boolean fits = true;
            for (int other : lines) {
                fits &= Integer.bitCount(other & line) < 2;
            }
            if (fits) {
                lines.add(line);
            }
        }
        return lines;
    }

    /** As many points on two, three, four lines as there are lines of so many points. */
    private static boolean looksDual(int points, List<Integer> lines) {
        int[] degrees = new int[9];
        int[] sizes = new int[9];
        for (int p = 0; p < points; p++) {
            int degree = 0;
            for (int line : lines) {
                degree += line >> p & 1;
            }
            degrees[degree]++;
        }
        for (int line : lines) {
            sizes[Integer.bitCount(line)]++;
        }
        return Arrays.equals(degrees, sizes);
    }

    private static void compare(int points, List<Integer> lines) {
        StringBuilder text = new StringBuilder("points ").append(points).append(';');
        for (int line : lines) {
            text.append("line");
            for (int p = 0; p < points; p++) {
                text.append((line >> p & 1) != 0 ? " " + p : "");
            }
            text.append(';');
        }
        SchemeLister x = Check.told(text.toString());
        PlainLister y = new PlainLister();
        byte[] bytes = text.toString().getBytes(StandardCharsets.ISO_8859_1);
        for (int i = 0; i < bytes.length; i += 20) {
            int[] w = Check.words(bytes, i);
            y.feed(w[0], w[1], w[2], w[3], w[4]);
        }
        y.scheme(bytes.length);
        for (int what = 9; what <= 12; what++) {
            CHECK.due("count(" + what + ") of " + text, x.count(what), y.count(what));
        }
        CHECK.due("dual(-1) of " + text, x.dual(-1), points);
    }
}
