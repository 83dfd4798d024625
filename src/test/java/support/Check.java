import java.nio.charset.StandardCharsets;
import java.util.NoSuchElementException;

/** Counts calls whose answer isn't the one that is due, and feeds texts. */
final class Check {
    /** A call that answers a number. */
    interface Call {
        long get();
    }

    private int wrong = 0;
    private int done = 0;

    void due(String call, long got, long want) {
        done++;
        if (got != want) {
            wrong++;
            System.out.println(call + " answered " + got + ", due is " + want);
        }
    }

    void due(String call, boolean got, boolean want) {
        due(call, got ? 1 : 0, want ? 1 : 0);
    }

    void same(String call, String got, String want) {
        done++;
        if (!got.equals(want)) {
            wrong++;
            System.out.println(call + " answered " + got + ", due is " + want);
        }
    }

    void noSuch(String call, Call of) {
        same(call, answer(of), "throws.NoSuchElementException");
    }

    void illegal(String call, Call of) {
        same(call, answer(of), "throws.IllegalArgumentException");
    }

    /** The number, or the name of the very class that was thrown. */
    static String answer(Call of) {
        try {
            return Long.toString(of.get());
        } catch (NoSuchElementException | IllegalArgumentException e) {
            return "throws." + e.getClass().getSimpleName();
        }
    }

    static int[] words(byte[] bytes, int from) {
        int[] words = new int[5];
        for (int i = 0; i < 20; i++) {
            int b = from + i < bytes.length ? bytes[from + i] & 255 : 32;
            words[i / 4] = words[i / 4] << 8 | b;
        }
        return words;
    }

    /** Feeds a text and makes it the scheme: what scheme() answers. */
    static int tell(SchemeLister x, String text) {
        byte[] bytes = text.getBytes(StandardCharsets.ISO_8859_1);
        for (int i = 0; i < bytes.length; i += 20) {
            int[] w = words(bytes, i);
            x.feed(w[0], w[1], w[2], w[3], w[4]);
        }
        return x.scheme(bytes.length);
    }

    /** A new object with the scheme of a text. */
    static SchemeLister told(String text) {
        SchemeLister x = new SchemeLister();
        if (tell(x, text) != 0) {
            throw new IllegalStateException("a test's own text has a fault: " + text);
        }
        return x;
    }

    static final String FANO = "line 0 1 3;line 1 2 4;line 2 3 5;line 3 4 6;line 4 5 0;line 5 6 1;line 6 0 2;";

    /** The lines of a scheme as they are, by their numbers. */
    static String lines(SchemeLister x) {
        StringBuilder s = new StringBuilder();
        for (int i = 0; i < x.count(1); i++) {
            s.append(i == 0 ? "" : " ").append(x.line(i));
        }
        return s.toString();
    }

    void end() {
        System.out.println(done + " answers looked at, " + wrong + " not as due");
        if (wrong != 0) {
            System.exit(1);
        }
    }
}
