/** Promises 25 and 26: square, plane. */
public final class DrawTest {
    private static final Check CHECK = new Check();

    public static void main(String[] args) {
        squares();
        planes();
        proved();
        wrong();
        CHECK.end();
    }

    private static void square(String text, int g, int... due) {
        SchemeLister x = Check.told(text);
        for (int p = 0; p < due.length; p++) {
            CHECK.due("square(" + g + ", " + p + ") of " + text, x.square(g, p), due[p]);
        }
    }

    private static void squares() {
        square("points 1;", 2, 0);
        square("points 4;", 2, 0, 1, 2, 3);
        square("points 5;", 2, -1, -1, -1, -1, -1);
        square("points 3;line 0 1 2;", 2, -1, -1, -1);
        square("points 3;line 0 1 2;", 3, 0, 1, 2);
        square("points 3;", 3, 0, 1, 3);
        square("points 3;line 0 1;line 1 2;line 0 2;", 3, 0, 1, 3);
        square("points 4;line 0 1 2 3;", 3, -1, -1, -1, -1);
        square("points 4;line 0 1 2 3;", 4, 0, 1, 2, 3);
        // Three in line is all that a line of 0 1 2 asks for, and no more: 3 must not be in line with two of them.
        square("points 4;line 0 1 2;", 4, 0, 1, 2, 4);
        // On a square of three by three each row has two points at most, so that six is the most without a line.
        square("points 6;", 3, 0, 1, 3, 5, 7, 8);
        square("points 7;", 3, -1, -1, -1, -1, -1, -1, -1);
        square("points 8;", 4, 0, 1, 6, 7, 8, 9, 14, 15);
        square(Check.FANO, 4, -1, -1, -1, -1, -1, -1, -1);
    }

    private static void plane(String text, int q, int many, int... due) {
        SchemeLister x = Check.told(text);
        CHECK.due("plane(" + q + ", -1) of " + text, x.plane(q, -1), many);
        for (int p = 0; p < due.length; p++) {
            CHECK.due("plane(" + q + ", " + p + ") of " + text, x.plane(q, p), due[p]);
        }
    }

    private static void planes() {
        plane("points 1;", 2, 7, 0);
        plane("points 2;", 2, 42, 0, 1);
        plane("points 2;line 0 1;", 2, 42, 0, 1);
        plane("points 3;", 2, 168, 0, 1, 3);
        plane("points 3;line 0 1 2;", 2, 42, 0, 1, 2);
        plane("points 4;line 0 1 2 3;", 2, 0, -1, -1, -1, -1);
        plane("points 4;", 2, 168, 0, 1, 3, 6);
        plane("points 5;", 2, 0, -1);
        plane(Check.FANO, 2, 168, 0);
        plane("points 8;" + Check.FANO, 2, 0, -1, -1, -1, -1, -1, -1, -1, -1);
        plane("points 1;", 3, 13, 0);
        plane("points 2;", 3, 156, 0, 1);
        plane("points 3;", 3, 1404, 0, 1, 4);
        plane("points 3;line 0 1 2;", 3, 312, 0, 1, 2);
        plane("points 4;line 0 1 2 3;", 3, 312, 0, 1, 2, 3);
        plane("points 4;", 3, 5616, 0, 1, 4, 8);
        plane(Check.FANO, 3, 0, -1, -1, -1, -1, -1, -1, -1);
        // Two lines of a plane always meet, and these two leave no place that is in line with none of them.
        plane("points 8;line 0 1 2 3;line 3 4 5 6;", 3, 0, -1);
        plane("points 7;line 0 1 2 3;line 3 4 5 6;", 3, 5616, 0, 1, 2, 3, 4);
    }

    /** What is proved not to be is so by trying everything, too. */
    private static void proved() {
        String[] texts = {"points 8;", "points 8;line 0 1 3;line 1 2 4;line 2 3 5;line 3 4 6;line 4 5 7;line 5 6 0;line 6 7 1;line 7 0 2;",
            "points 8;line 2 4 6;line 2 3 7;line 4 5 7;line 3 5 6;",
            "points 8;line 1 2 5;line 2 6 7;line 4 5 6;line 1 4 7;",
            "points 7;line 0 1 2;line 0 3 4;line 0 5 6;line 1 3 5;line 2 4 6;"};
        for (String text : texts) {
            SchemeLister x = Check.told(text);
            PlainLister y = new PlainLister();
            byte[] bytes = text.getBytes(java.nio.charset.StandardCharsets.ISO_8859_1);
            for (int i = 0; i < bytes.length; i += 20) {
                int[] w = Check.words(bytes, i);
                y.feed(w[0], w[1], w[2], w[3], w[4]);
            }
            y.scheme(bytes.length);
            for (int p = 0; p < x.count(0); p++) {
                for (int g = 2; g <= 4; g++) {
                    CHECK.due("square(" + g + ", " + p + ") of " + text, x.square(g, p), y.square(g, p));
                }
                CHECK.due("plane(2, " + p + ") of " + text, x.plane(2, p), y.plane(2, p));
                CHECK.due("plane(3, " + p + ") of " + text, x.plane(3, p), y.plane(3, p));
            }
            CHECK.due("plane(2, -1) of " + text, x.plane(2, -1), y.plane(2, -1));
            CHECK.due("plane(3, -1) of " + text, x.plane(3, -1), y.plane(3, -1));
        }
    }

    private static void wrong() {
        SchemeLister x = Check.told("points 3;line 0 1;");
        for (int w : new int[] {-2, 3, 8, Integer.MIN_VALUE, Integer.MAX_VALUE}) {
            CHECK.noSuch("square(2, " + w + ")", () -> x.square(2, w));
            CHECK.noSuch("square(9, " + w + ")", () -> x.square(9, w));
            CHECK.noSuch("plane(2, " + w + ")", () -> x.plane(2, w));
            CHECK.noSuch("plane(9, " + w + ")", () -> x.plane(9, w));
        }
        CHECK.noSuch("square(2, -1)", () -> x.square(2, -1));
        for (int w : new int[] {-1, 0, 1, 5, Integer.MIN_VALUE, Integer.MAX_VALUE}) {
            CHECK.illegal("square(" + w + ", 0)", () -> x.square(w, 0));
            CHECK.illegal("plane(" + w + ", 0)", () -> x.plane(w, 0));
            CHECK.illegal("plane(" + w + ", -1)", () -> x.plane(w, -1));
        }
        CHECK.illegal("plane(4, 0)", () -> x.plane(4, 0));
        CHECK.due("square(4, 0)", x.square(4, 0), 0);
    }
}
