import java.nio.charset.StandardCharsets;
import java.util.NoSuchElementException;

/** Counts calls whose answer isn't the one that is due, and feeds texts. */
final class Check {
    /** A call that answers a number. */
    interface Call {
        long get();
    }

    /** A call of an object that answers a number. */
    interface Ask {
        long of(SchemeLister x);
    }

    private int wrong = 0;
    private int done = 0;
    private String sentence = "";

    /** What is told before each wrong answer from now on. */
    void naming(String words) {
        sentence = words;
    }

    int looked() {
        return done;
    }

    void due(String call, long got, long want) {
        done++;
        if (got != want) {
            wrong++;
            System.out.println(sentence + call + " answered " + got + ", due is " + want);
        }
    }

    void due(String call, boolean got, boolean want) {
        due(call, got ? 1 : 0, want ? 1 : 0);
    }

    void same(String call, String got, String want) {
        done++;
        if (!got.equals(want)) {
            wrong++;
            System.out.println(sentence + call + " answered " + got + ", due is " + want);
        }
    }

    void noSuch(String call, Call of) {
        same(call, answer(of), "throws.NoSuchElementException");
    }

    void illegal(String call, Call of) {
        same(call, answer(of), "throws.IllegalArgumentException");
    }

    /** The number, or the name of the very class that was thrown. */
    static String answer(Call of) {
        try {
            return Long.toString(of.get());
        } catch (NoSuchElementException | IllegalArgumentException e) {
            return "throws." + e.getClass().getSimpleName();
        }
    }

    static int[] words(byte[] bytes, int from) {
        int[] words = new int[5];
        for (int i = 0; i < 20; i++) {
            int b = from + i < bytes.length ? bytes[from + i] & 255 : 32;
            words[i / 4] = words[i / 4] << 8 | b;
        }
        return words;
    }

    /** Feeds a text and makes it the scheme: what scheme() answers. */
    static int tell(SchemeLister x, String text) {
        byte[] bytes = text.getBytes(StandardCharsets.ISO_8859_1);
        for (int i = 0; i < bytes.length; i += 20) {
            int[] w = words(bytes, i);
            x.feed(w[0], w[1], w[2], w[3], w[4]);
        }
        return x.scheme(bytes.length);
    }

    /** A new object with the scheme of a text. */
    static SchemeLister told(String text) {
        SchemeLister x = new SchemeLister();
        if (tell(x, text) != 0) {
            throw new IllegalStateException("a test's own text has a fault: " + text);
        }
        return x;
    }

    /** A new object with two texts' schemes: one on shelf 1, the other as it is. */
    static SchemeLister both(String there, String here) {
        SchemeLister x = told(here);
        x.put(2);
        int points = x.count(0);
        String lines = lines(x);
        SchemeLister y = told(there);
        y.put(1);
        for (int i = y.count(1); i > 0; i--) {
            y.drop(0);
        }
        for (int i = y.count(0); i < points; i++) {
            y.grow(true);
        }
        for (int i = y.count(0); i > points; i--) {
            y.grow(false);
        }
        for (String line : lines.isEmpty() ? new String[0] : lines.split(" ")) {
            y.add(Integer.parseInt(line));
        }
        return y;
    }

    /** Asks one object for each of some numbers, of which there are none. */
    void noSuch(String call, java.util.function.IntUnaryOperator of, int... wrong) {
        for (int w : wrong) {
            noSuch(call + " of " + w, () -> of.applyAsInt(w));
        }
    }

    /** Asks one object for each of some numbers, which can't be. */
    void illegal(String call, java.util.function.IntUnaryOperator of, int... wrong) {
        for (int w : wrong) {
            illegal(call + " of " + w, () -> of.applyAsInt(w));
        }
    }

    /** All that can be seen of what calls change, but STATUS (some 50 calls). */
    static String state(SchemeLister x) {
        StringBuilder s = new StringBuilder();
        s.append(x.count(0)).append(" points, lines ").append(lines(x)).append(", at");
        for (int p = 0; p < x.count(0); p++) {
            s.append(' ').append(x.point(p, 1)).append(',').append(x.point(p, 2));
        }
        s.append(", shelves");
        for (int i = 0; i < 4; i++) {
            int shelf = i;
            s.append(' ').append(answer(() -> x.shelf(shelf, 2))).append('/').append(answer(() -> x.shelf(shelf, 3)));
        }
        s.append(", acts ").append(x.count(16)).append(", tape ").append(x.count(17)).append(", fault ").append(x.fault());
        return s.toString();
    }

    /** What is asked of the scheme itself, each question answered (some 120 calls). */
    static String answers(SchemeLister x) {
        StringBuilder s = new StringBuilder("counts");
        for (int what : new int[] {0, 1, 2, 3, 4, 5, 6, 7, 8, 9, 10, 11, 12, 13, 14, 15, 20, 21}) {
            s.append(' ').append(x.count(what));
        }
        s.append(", normal");
        for (int i = 0; i < x.count(1); i++) {
            s.append(' ').append(x.normal(i));
        }
        s.append(", dual");
        for (int i = -1; i < x.dual(-1); i++) {
            s.append(' ').append(x.dual(i));
        }
        s.append(", points");
        for (int p = 0; p < x.count(0); p++) {
            s.append(' ').append(x.point(p, 3)).append('/').append(x.symmetry(x.count(9) - 1, p));
            s.append('/').append(x.square(3, p)).append('/').append(x.square(4, p)).append('/').append(x.plane(3, p));
        }
        s.append(", planes ").append(x.plane(2, -1)).append(' ').append(x.plane(3, -1)).append(", sets");
        for (int what = 0; what < 6; what++) {
            s.append(' ').append(x.set(what));
        }
        s.append(", game ").append(x.game(0)).append(' ').append(x.game(1));
        s.append(", years ").append(x.years(3, 20, 0)).append(' ').append(x.years(3, 20, 1));
        s.append(", shelves");
        for (int i = 0; i < 4; i++) {
            int shelf = i;
            s.append(' ').append(answer(() -> x.shelf(shelf, 0))).append('/').append(answer(() -> x.shelf(shelf, 1)));
            s.append('/').append(answer(() -> x.way(shelf, 0)));
        }
        return s.toString();
    }

    /** An act that is refused: STATUS 1 counts it, and nothing else changes. */
    void refused(String call, SchemeLister x, Ask act, long want) {
        String before = state(x);
        int texts = x.count(18);
        int acts = x.count(19);
        due(call, act.of(x), want);
        same("all behind " + call, state(x), before);
        due("STATUS 0 behind " + call, x.count(18), texts);
        due("STATUS 1 behind " + call, x.count(19), acts + 1);
    }

    /** A call that throws: nothing changes. */
    void thrown(String call, SchemeLister x, Ask ask, String exception) {
        String before = state(x);
        int texts = x.count(18);
        int acts = x.count(19);
        same(call, answer(() -> ask.of(x)), "throws." + exception);
        same("all behind " + call, state(x), before);
        due("STATUS 0 behind " + call, x.count(18), texts);
        due("STATUS 1 behind " + call, x.count(19), acts);
    }

    static final int LEAST = Integer.MIN_VALUE;
    static final int MOST = Integer.MAX_VALUE;
    /** Eight points, twelve lines, each two points on a line: the plane of 9 places without one of them. */
    static final String FULL = "points 8;line 0 1 2;line 3 4 5;line 0 3 6;line 1 4 7;line 1 5 6;line 2 3 7;line 0 5 7;"
            + "line 2 4 6;line 6 7;line 2 5;line 0 4;line 1 3;";
    /** A tree whose branches have one, two, three lines: it is itself by its own names alone. */
    static final String TREE = "points 7;line 0 1;line 0 2;line 2 3;line 0 4;line 4 5;line 5 6;";
    static final String FANO = "line 0 1 3;line 1 2 4;line 2 3 5;line 3 4 6;line 4 5 0;line 5 6 1;line 6 0 2;";

    /** The lines of a scheme as they are, by their numbers. */
    static String lines(SchemeLister x) {
        StringBuilder s = new StringBuilder();
        for (int i = 0; i < x.count(1); i++) {
            s.append(i == 0 ? "" : " ").append(x.line(i));
        }
        return s.toString();
    }

    void end() {
        System.out.println(done + " answers looked at, " + wrong + " not as due");
        if (wrong != 0) {
            System.exit(1);
        }
    }
}
