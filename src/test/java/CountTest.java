/** Promises 5 to 9, and 28: count, line, point, joined, meet, far. */
public final class CountTest {
    private static final Check CHECK = new Check();
    private static final String QUADRILATERAL = "points 6;line 0 1 2;line 0 3 4;line 1 3 5;line 2 4 5;";
    private static final String KANTOR = "points 8;line 0 1 3;line 1 2 4;line 2 3 5;line 3 4 6;line 4 5 7;"
            + "line 5 6 0;line 6 7 1;line 7 0 2;";

    public static void main(String[] args) {
        numbers();
        girths();
        places();
        points();
        lines();
        wrong();
        CHECK.end();
    }

    /** What count answers for some what's, in turns: what, answer. */
    private static void counts(String text, int... pairs) {
        SchemeLister x = Check.told(text);
        for (int i = 0; i < pairs.length; i += 2) {
            CHECK.due("count(" + pairs[i] + ") of " + text, x.count(pairs[i]), pairs[i + 1]);
        }
    }

    private static void numbers() {
        counts("points 1;", 0, 1, 1, 0, 2, 0, 3, 1, 4, 0, 5, 0, 6, 0, 7, 0, 8, 1, 9, 1, 10, 1, 11, 0, 12, 0,
                13, 0, 14, 0, 15, -1, 20, 0, 21, 0);
        counts("points 8;", 3, 1, 4, 0, 5, 0, 8, 8, 9, 40320, 10, 1, 14, 56);
        counts(Check.FANO, 2, 21, 3, 1, 4, 3, 5, 3, 6, 21, 7, 28, 9, 168, 10, 1, 11, 168, 12, 28, 15, 3, 20, 7, 21, 0);
        counts(QUADRILATERAL, 2, 12, 3, 1, 4, 2, 5, 3, 6, 12, 7, 4, 8, 1, 9, 24, 10, 1, 11, 0, 12, 0, 15, 3, 20, 1, 21, 0);
        counts(KANTOR, 2, 24, 3, 1, 4, 3, 5, 3, 6, 24, 9, 48, 10, 1, 11, 48, 15, 3, 21, 4);
        // Four points with all their pairs: opposite pairs don't meet; six points don't exist.
        counts("points 4;line 0 1;line 0 2;line 0 3;line 1 2;line 1 3;line 2 3;", 4, 3, 5, 2, 7, 4, 9, 24, 20, 0, 21, 3);
        // Three lines through one point are no triangle.
        counts("line 0 1 2;line 0 3 4;line 0 5 6;", 7, 0, 8, 1, 9, 48, 10, 2, 15, -1, 3, 0, 4, -1, 5, -1);
        counts("points 8;line 0 1 2;line 3 4 5 6;", 2, 7, 3, 0, 6, 9, 8, 3, 9, 144, 10, 3, 21, 1);
        // All points on one line each, but the lines are unlike.
        counts("points 5;line 0 1;line 2 3 4;", 3, 0, 4, -1, 5, -1);
        // All lines are like, but the points aren't.
        counts("points 3;line 0 1;line 1 2;", 3, 0, 4, -1, 5, -1, 11, 0);
        counts("points 3;line 0 1;line 1 2;line 2 0;", 7, 1, 9, 6, 11, 6, 12, 4);
        counts("points 4;line 0 1;line 1 2;line 2 3;line 3 0;", 11, 8, 12, 4);
        counts("points 5;line 0 1;line 1 2;line 2 3;line 3 4;line 4 0;", 9, 10, 11, 10, 12, 6);
        // As many points as lines, but a point on more than four of them.
        counts("points 7;line 0 1;line 0 2;line 0 3;line 0 4;line 0 5;line 0 6;line 1 2;", 11, 0, 12, 0);
        // As many points as lines, but not like its dual.
        counts("points 4;line 0 1;line 0 2;line 0 3;line 1 2;", 11, 0, 12, 0);
    }

    private static void girths() {
        counts("points 8;line 0 1;line 1 2;line 2 3;line 3 4;line 4 5;line 5 6;line 6 7;line 7 0;", 15, 8, 9, 16, 12, 8);
        counts("points 8;line 0 1;line 1 2;line 2 3;line 3 4;line 4 5;line 5 6;line 6 7;", 15, -1);
        counts("points 8;line 0 1;line 1 2;line 2 3;line 3 4;line 4 5;line 5 6;line 6 7;line 7 0;line 3 7;", 15, 5);
        counts("points 8;line 0 1 2;line 2 3 4;line 4 5 6;line 6 7 0;", 15, 4);
        // Four lines through one point make no ring, for the point would be there more than once.
        counts("points 8;line 0 1;line 0 2;line 0 3;line 0 4;", 15, -1, 7, 0, 20, 0);
    }

    private static void places() {
        SchemeLister x = Check.told("points 4;line 0 1 2;line 2 3;");
        CHECK.due("all at one place slip", x.count(13), 2);
        CHECK.due("all at one place stray", x.count(14), 3);
        x.place(1, 1, 1);
        x.place(2, 2, 2);
        CHECK.due("the pair is apart, the line is straight", x.count(13), 0);
        CHECK.due("point 3 is at 0", x.count(14), 3);
        x.place(3, 3, -3);
        CHECK.due("now no strays", x.count(14), 0);
        x.place(1, 1, 0);
        CHECK.due("the line is bent", x.count(13), 1);
        x.place(1, 2, 2);
        CHECK.due("two of the line are at the same place", x.count(13), 1);
        CHECK.due("strays: 1 2 3 are in line", x.count(14), 1);
        x.place(3, 2, 2);
        CHECK.due("the pair slips, too", x.count(13), 2);
        SchemeLister y = Check.told("points 4;line 0 1 2 3;at 0 -9 -9;at 1 9 9;at 2 -1 -1;at 3 5 5;");
        CHECK.due("four in line", y.count(13), 0);
        CHECK.due("all on one line", y.count(14), 0);
        y.place(3, 5, 4);
        CHECK.due("the fourth is not", y.count(13), 1);
    }

    private static void points() {
        SchemeLister x = Check.told("points 8;line 1 2 3;line 3 4;line 6 7;at 4 -7 8;");
        int[] on = {0, 1, 1, 3, 2, 0, 4, 4};
        int[] orbit = {0, 1, 1, 3, 4, 0, 6, 6};
        int[] piece = {0, 1, 1, 1, 1, 5, 6, 6};
        for (int p = 0; p < 8; p++) {
            CHECK.due("lines on " + p, x.point(p, 0), on[p]);
            CHECK.due("x of " + p, x.point(p, 1), p == 4 ? -7 : 0);
            CHECK.due("y of " + p, x.point(p, 2), p == 4 ? 8 : 0);
            CHECK.due("orbit of " + p, x.point(p, 3), orbit[p]);
            CHECK.due("piece of " + p, x.point(p, 4), piece[p]);
        }
        CHECK.due("pieces", x.count(8), 4);
        CHECK.due("orbits", x.count(10), 5);
        CHECK.due("far itself", x.far(5, 5), 0);
        CHECK.due("far by one", x.far(1, 2), 1);
        CHECK.due("far by two", x.far(4, 1), 2);
        CHECK.due("not far", x.far(1, 6), -1);
        CHECK.due("not far from nothing", x.far(0, 5), -1);
        SchemeLister y = Check.told("points 8;line 0 1;line 1 2;line 2 3;line 3 4;line 4 5;line 5 6;line 6 7;");
        CHECK.due("far by seven", y.far(7, 0), 7);
    }

    private static void lines() {
        SchemeLister x = Check.told("points 8;line 7 0 3;line 1 3;line 4 5 6 7;");
        CHECK.due("line 0", x.line(0), 137);
        CHECK.due("line 1", x.line(1), 10);
        CHECK.due("line 2", x.line(2), 240);
        CHECK.due("joined", x.joined(3, 7), 0);
        CHECK.due("joined back", x.joined(7, 3), 0);
        CHECK.due("joined by 2", x.joined(6, 4), 2);
        CHECK.due("not joined", x.joined(1, 0), -1);
        CHECK.due("nor on a line", x.joined(2, 0), -1);
        CHECK.due("meet", x.meet(0, 1), 3);
        CHECK.due("meet back", x.meet(2, 0), 7);
        CHECK.due("don't meet", x.meet(1, 2), -1);
    }

    private static void wrong() {
        SchemeLister x = Check.told("points 4;line 0 1;line 1 2;");
        int[] odd = {-1, -2, 22, 23, 100, Integer.MIN_VALUE, Integer.MAX_VALUE};
        for (int w : odd) {
            CHECK.noSuch("count(" + w + ")", () -> x.count(w));
            CHECK.noSuch("line(" + w + ")", () -> x.line(w));
            CHECK.noSuch("point(" + w + ", 0)", () -> x.point(w, 0));
            CHECK.noSuch("point(0, " + w + ")", () -> x.point(0, w));
            CHECK.noSuch("joined(0, " + w + ")", () -> x.joined(0, w));
            CHECK.noSuch("joined(" + w + ", " + w + ")", () -> x.joined(w, w));
            CHECK.noSuch("meet(0, " + w + ")", () -> x.meet(0, w));
            CHECK.noSuch("meet(" + w + ", " + w + ")", () -> x.meet(w, w));
            CHECK.noSuch("far(" + w + ", 0)", () -> x.far(w, 0));
            CHECK.noSuch("far(" + w + ", " + w + ")", () -> x.far(w, w));
        }
        CHECK.noSuch("line(2)", () -> x.line(2));
        CHECK.noSuch("point(4, 0)", () -> x.point(4, 0));
        CHECK.noSuch("point(0, 5)", () -> x.point(0, 5));
        CHECK.noSuch("joined(4, 4)", () -> x.joined(4, 4));
        CHECK.illegal("joined(3, 3)", () -> x.joined(3, 3));
        CHECK.noSuch("meet(2, 2)", () -> x.meet(2, 2));
        CHECK.illegal("meet(1, 1)", () -> x.meet(1, 1));
        CHECK.noSuch("far(0, 4)", () -> x.far(0, 4));
        CHECK.due("questions refuse nothing", x.count(18) + x.count(19), 0);
    }
}
