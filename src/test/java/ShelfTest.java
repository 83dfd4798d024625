/** Promises 13, 14, 21 and 22: shelf, way, put, take. */
public final class ShelfTest {
    private static final Check CHECK = new Check();

    public static void main(String[] args) {
        putAndTake();
        like();
        within();
        ways();
        wrong();
        CHECK.end();
    }

    /** An object with one text's scheme on shelf 1, and another one's as it is. */
    private static SchemeLister both(String there, int points, int... lines) {
        SchemeLister x = Check.told(there);
        x.put(1);
        for (int i = x.count(1); i > 0; i--) {
            x.drop(0);
        }
        for (int i = x.count(0); i < points; i++) {
            x.grow(true);
        }
        for (int i = x.count(0); i > points; i--) {
            x.grow(false);
        }
        for (int line : lines) {
            if (x.add(line) < 0) {
                throw new IllegalStateException("a test's own line is wrong: " + line);
            }
        }
        return x;
    }

    private static void putAndTake() {
        SchemeLister x = Check.told("points 3;line 0 1;at 2 7 -7;");
        CHECK.due("nothing was there", x.put(0), 0);
        CHECK.due("one was there", x.put(0), 1);
        CHECK.due("another shelf", x.put(3), 0);
        CHECK.due("points", x.shelf(0, 2), 3);
        CHECK.due("lines", x.shelf(0, 3), 1);
        x.grow(true);
        x.add(8 + 4);
        x.place(2, 1, 1);
        CHECK.due("the shelf stays", x.shelf(0, 3), 1);
        CHECK.due("take", x.take(0), 3);
        CHECK.due("lines", x.count(1), 1);
        CHECK.due("at, too", x.point(2, 1), 7);
        CHECK.due("at, too", x.point(2, 2), -7);
        CHECK.due("it stays there", x.take(0), 3);
        CHECK.due("nothing is there", x.take(1), -1);
        CHECK.due("no such", x.take(4), -1);
        CHECK.due("no such", x.take(-1), -1);
        CHECK.due("no such", x.put(4), -1);
        CHECK.due("no such", x.put(-1), -1);
        CHECK.due("status", x.count(19), 5);
        CHECK.due("acts", x.count(16), 8);
    }

    private static void like() {
        CHECK.due("a path and another one", both("points 4;line 0 1;line 1 2;line 2 3;", 4, 5, 9, 10).shelf(1, 0), 2);
        CHECK.due("a path and a star", both("points 4;line 0 1;line 1 2;line 2 3;", 4, 3, 5, 9).shelf(1, 0), 0);
        CHECK.due("more points", both("points 4;line 0 1;", 5, 3).shelf(1, 0), 0);
        CHECK.due("more lines", both("points 4;line 0 1;", 4, 3, 12).shelf(1, 0), 0);
        CHECK.due("no lines", both("points 5;", 5).shelf(1, 0), 120);
        CHECK.due("pair and triple", both("points 5;line 0 1;line 2 3 4;", 5, 28, 3).shelf(1, 0), 12);
        CHECK.due("triple, not pair", both("points 5;line 0 1 2;", 5, 3).shelf(1, 0), 0);
    }

    private static void within() {
        CHECK.due("two points among four", both("points 2;", 4).shelf(1, 1), 12);
        CHECK.due("a pair in a triple", both("points 2;line 0 1;", 5, 7).shelf(1, 1), 6);
        CHECK.due("a triple in a pair", both("points 3;line 0 1 2;", 5, 3).shelf(1, 1), 0);
        CHECK.due("two pairs in one line", both("points 4;line 0 1;line 2 3;", 4, 15).shelf(1, 1), 0);
        CHECK.due("two pairs in two lines", both("points 3;line 0 1;line 1 2;", 5, 7, 25).shelf(1, 1), 8);
        CHECK.due("too many points", both("points 5;", 4).shelf(1, 1), 0);
        CHECK.due("more lines", both("points 3;line 0 1;line 1 2;", 5, 7).shelf(1, 1), 0);
        CHECK.due("points that aren't joined may become joined", both("points 3;line 0 1;", 3, 7).shelf(1, 1), 6);
        CHECK.due("itself", both("points 8;", 8).shelf(1, 1), 40320);
    }

    private static void way(SchemeLister x, int... due) {
        for (int p = 0; p < due.length; p++) {
            int point = p;
            CHECK.due("way(1, " + p + ")", x.way(1, point), due[p]);
        }
        CHECK.noSuch("way behind the last point", () -> x.way(1, due.length));
    }

    private static void ways() {
        way(both("points 2;line 0 1;", 5, 28), 2, 3);
        way(both("points 3;line 1 2;", 5, 3), 2, 0, 1);
        way(both("points 3;line 0 1;line 1 2;", 5, 7, 25), 1, 0, 3);
        way(both("points 3;line 0 1 2;", 4, 3), -1, -1, -1);
        way(both("points 6;", 5), -1, -1, -1, -1, -1, -1);
        way(both("points 8;line 6 7;", 8, 3), 2, 3, 4, 5, 6, 7, 0, 1);
    }

    private static void wrong() {
        SchemeLister x = Check.told("points 3;line 0 1;");
        x.put(2);
        for (int w : new int[] {-1, 4, 0, 1, 3, Integer.MIN_VALUE, Integer.MAX_VALUE}) {
            CHECK.noSuch("shelf(" + w + ", 0)", () -> x.shelf(w, 0));
            CHECK.noSuch("way(" + w + ", 0)", () -> x.way(w, 0));
        }
        for (int w : new int[] {-1, 4, 5, Integer.MIN_VALUE, Integer.MAX_VALUE}) {
            CHECK.noSuch("shelf(2, " + w + ")", () -> x.shelf(2, w));
            CHECK.noSuch("way(2, " + w + ")", () -> x.way(2, w));
        }
        CHECK.noSuch("way(2, 3)", () -> x.way(2, 3));
        CHECK.due("questions refuse nothing", x.count(19), 0);
    }
}
