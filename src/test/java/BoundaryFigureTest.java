/** What the document says of a scheme's figures, and promises 5 to 14, each sentence by a test of its own. */
@Covers({"Terms 2", "Promise 5", "Promise 6", "Promise 7", "Promise 8", "Promise 9", "Promise 10", "Promise 11", "Promise 12",
    "Promise 13", "Promise 14"})
public final class BoundaryFigureTest {
    private static final Check CHECK = new Check();
    private static final String TRIANGLE = "points 3;line 0 1;line 1 2;line 2 0;";
    private static final String PATH = "points 8;line 0 1;line 1 2;line 2 3;line 3 4;line 4 5;line 5 6;line 6 7;";
    private static final String RING = PATH + "line 7 0;";
    private static final String PENCIL = "line 0 1 2;line 0 3 4;line 0 5 6;";
    private static final String FOUR = "points 6;line 0 1 2;line 0 3 4;line 1 3 5;line 2 4 5;";
    private static final String STAR = "points 6;line 0 1;line 0 2;line 0 3;line 0 4;line 0 5;";
    private static final int[] ODD = {-1, Check.LEAST, Check.MOST};

    public static void main(String[] args) throws Exception {
        Boundaries.run(BoundaryFigureTest.class, CHECK);
    }

    private static void counts(int what, String text, int due) {
        CHECK.due("count(" + what + ") of '" + text + "'", Check.told(text).count(what), due);
    }

    private static void shelved(int what, String there, String here, int due) {
        CHECK.due("shelf(1, " + what + ") of '" + there + "' by '" + here + "'", Check.both(there, here).shelf(1, what), due);
    }

    private static void normals(String text, int... due) {
        SchemeLister x = Check.told(text);
        for (int i = 0; i < due.length; i++) {
            CHECK.due("normal(" + i + ") of '" + text + "'", x.normal(i), due[i]);
        }
        CHECK.noSuch("normal of '" + text + "'", x::normal, due.length);
    }

    private static void duals(String text, int... due) {
        SchemeLister x = Check.told(text);
        CHECK.due("dual(-1) of '" + text + "'", x.dual(-1), due.length);
        for (int i = 0; i < due.length; i++) {
            CHECK.due("dual(" + i + ") of '" + text + "'", x.dual(i), due[i]);
        }
        CHECK.noSuch("dual of '" + text + "'", x::dual, due.length);
    }

    private static void noDual(String text) {
        SchemeLister x = Check.told(text);
        CHECK.due("dual(-1) of '" + text + "'", x.dual(-1), -1);
        CHECK.noSuch("dual of '" + text + "'", x::dual, 0, 1, -2);
        CHECK.refused("turn of '" + text + "'", x, SchemeLister::turn, -1);
    }

    private static String symmetry(SchemeLister x, int i) {
        StringBuilder row = new StringBuilder();
        for (int p = 0; p < x.count(0); p++) {
            row.append(x.symmetry(i, p));
        }
        return row.toString();
    }

    // Of figures.

    @Sentence(in = "Terms 2", says = "FLAGS: how often a POINT is on a LINE.")
    private static void flags() {
        counts(2, "points 1;", 0);
        counts(2, "points 2;line 0 1;", 2);
        counts(2, "line 0 1 2 3;line 3 4;", 6);
        counts(2, Check.FULL, 32);
    }

    @Sentence(in = "Terms 2", says = "JOINED are two POINTS on one LINE.")
    private static void joinedPairs() {
        SchemeLister x = Check.told("points 5;line 0 1 2 3;line 3 4;");
        CHECK.due("two of the first line", x.joined(0, 3), 0);
        CHECK.due("two of the second", x.joined(4, 3), 1);
        CHECK.due("two of two lines", x.joined(0, 4), -1);
        CHECK.due("pairs", x.count(6), 7);
    }

    @Sentence(in = "Terms 2", says = "A PIECE: POINTS that hang together by LINES")
    private static void onePiece() {
        counts(8, PATH, 1);
        CHECK.due("the far end", Check.told(PATH).point(7, 4), 0);
        SchemeLister x = Check.told("points 8;line 7 6;line 6 1;line 0 2 3 4;");
        CHECK.due("pieces", x.count(8), 3);
        CHECK.due("of 7, by two lines", x.point(7, 4), 1);
        CHECK.due("of 4", x.point(4, 4), 0);
    }

    @Sentence(in = "Terms 2", says = "(a POINT on none is one of its own)")
    private static void ownPiece() {
        counts(8, "points 8;", 8);
        counts(8, "points 1;", 1);
        CHECK.due("the last", Check.told("points 8;").point(7, 4), 7);
        CHECK.due("beside a line", Check.told("points 3;line 0 2;").point(1, 4), 1);
    }

    @Sentence(in = "Terms 2", says = "TRIANGLES: three LINES, each two of which meet, in three POINTS.")
    private static void triangles() {
        counts(7, TRIANGLE, 1);
        // Three that meet in one point, two only, three two of which don't meet.
        counts(7, PENCIL, 0);
        counts(7, "line 0 1;line 1 2;", 0);
        counts(7, "line 0 1;line 1 2;line 2 3;", 0);
        counts(7, FOUR, 4);
    }

    @Sentence(in = "Terms 2", says = "FOURS: four LINES, each two of which meet, in six POINTS.")
    private static void fours() {
        counts(20, FOUR, 1);
        // Three of them through one point, all of them through one point, two that don't meet, three only.
        counts(20, PENCIL + "line 1 3 5;", 0);
        counts(20, "points 5;line 0 1;line 0 2;line 0 3;line 0 4;", 0);
        counts(20, "points 8;line 0 1 2;line 0 3 4;line 1 3 5;line 2 4 6;", 0);
        counts(20, "points 8;line 0 1 2;line 0 3 4;line 1 3 5;line 2 6 7;", 0);
        counts(20, TRIANGLE, 0);
    }

    @Sentence(in = "Terms 2", says = "APART: pairs of LINES that don't meet.")
    private static void apart() {
        counts(21, "", 0);
        counts(21, "line 0 1;", 0);
        counts(21, "line 0 1;line 2 3;", 1);
        counts(21, "points 8;line 0 1;line 2 3;line 4 5;line 6 7;", 6);
        counts(21, PENCIL, 0);
    }

    @Sentence(in = "Terms 2", says = "REGULAR, by r and k: each POINT is on r LINES, each LINE has k POINTS")
    private static void regular() {
        regular(Check.FANO, 1, 3, 3);
        regular("points 8;line 0 1 2 3;line 7 6 5 4;", 1, 1, 4);
        regular(FOUR, 1, 2, 3);
        // A point on another number of lines (the last one, the first, the second), a line of another number of points.
        regular("points 4;line 0 1 2;", 0, -1, -1);
        regular("points 3;line 1 2;", 0, -1, -1);
        regular("points 3;line 0 2;", 0, -1, -1);
        regular("points 7;line 0 1 2;line 3 4;line 5 6;", 0, -1, -1);
        regular("points 7;line 0 1;line 2 3 4;line 5 6;", 0, -1, -1);
        regular("points 7;line 0 1;line 2 3;line 4 5 6;", 0, -1, -1);
        regular(Check.FULL, 0, -1, -1);
    }

    private static void regular(String text, int whether, int r, int k) {
        counts(3, text, whether);
        counts(4, text, r);
        counts(5, text, k);
    }

    @Sentence(in = "Terms 2", says = "(without LINES: r 0, k 0)")
    private static void regularWithoutLines() {
        regular("points 1;", 1, 0, 0);
        regular("points 8;", 1, 0, 0);
    }

    // Of symmetries.

    @Sentence(in = "Terms 2", says = "A SYMMETRY: for each POINT another one, none twice, by which each LINE becomes a LINE")
    private static void symmetries() {
        counts(9, "points 1;", 1);
        counts(9, Check.TREE, 1);
        counts(9, TRIANGLE, 6);
        counts(9, PENCIL, 48);
        counts(9, FOUR, 24);
        counts(9, Check.FULL, 48);
        counts(9, "points 8;", 40320);
        // A line of two points never becomes one of three.
        counts(9, "points 5;line 0 1;line 2 3 4;", 12);
    }

    @Sentence(in = "Terms 2", says = "they are in order by what POINT 0 becomes, then 1, and so on.")
    private static void symmetriesInOrder() {
        SchemeLister x = Check.told(TRIANGLE);
        String[] due = {"012", "021", "102", "120", "201", "210"};
        for (int i = 0; i < due.length; i++) {
            CHECK.same("symmetry " + i, symmetry(x, i), due[i]);
        }
        SchemeLister y = Check.told("points 8;");
        CHECK.same("the first", symmetry(y, 0), "01234567");
        CHECK.same("the second", symmetry(y, 1), "01234576");
        CHECK.same("the first that moves 0", symmetry(y, 5040), "10234567");
        CHECK.same("the last", symmetry(y, 40319), "76543210");
    }

    @Sentence(in = "Terms 2", says = "ORBIT: what a POINT becomes by all of these.")
    private static void orbits() {
        SchemeLister x = Check.told(PENCIL);
        CHECK.due("orbits", x.count(10), 2);
        CHECK.due("of 0", x.point(0, 3), 0);
        CHECK.due("of 6", x.point(6, 3), 1);
        SchemeLister y = Check.told(Check.TREE);
        for (int p = 0; p < 7; p++) {
            CHECK.due("of its own", y.point(p, 3), p);
        }
        CHECK.due("all in one", Check.told(RING).point(7, 3), 0);
        CHECK.due("the other end", Check.told(PATH).point(7, 3), 0);
        CHECK.due("the middle", Check.told(PATH).point(4, 3), 3);
    }

    @Sentence(in = "Terms 2", says = "NORMAL is, of all ways to number the POINTS anew, that by which the LINES' numbers, sorted, are"
            + " the least row")
    private static void normal() {
        normals("");
        normals("points 2;line 0 1;", 3);
        normals("points 8;line 4 5 6 7;", 15);
        normals("points 8;line 4 5 6 7;line 2 4;", 3, 29);
        normals(STAR, 3, 5, 9, 17, 33);
        normals(Check.FANO, 7, 25, 42, 52, 76, 82, 97);
        // A triangle with one line more, which goes through 0 then, in whatever order they are told.
        normals("points 4;line 0 1;line 0 2;line 1 2;line 2 3;", 3, 5, 6, 9);
        normals("points 4;line 0 1;line 2 3;line 1 3;line 0 3;", 3, 5, 6, 9);
        normals("points 4;line 2 3;line 1 3;line 1 2;line 0 1;", 3, 5, 6, 9);
        // Of one object, with fewer lines and with more again.
        SchemeLister x = Check.told("line 0 1;line 2 3 4;");
        normalRow(x, 3, 28);
        x.drop(0);
        normalRow(x, 7);
        x.drop(0);
        normalRow(x);
        x.undo();
        x.undo();
        normalRow(x, 3, 28);
    }

    private static void normalRow(SchemeLister x, int... due) {
        for (int i = 0; i < due.length; i++) {
            CHECK.due("normal(" + i + ")", x.normal(i), due[i]);
        }
        CHECK.noSuch("normal", x::normal, due.length);
    }

    @Sentence(in = "Terms 2", says = "of all ways to number the POINTS anew")
    private static void normalOfAllWays() {
        SchemeLister x = Check.told(Check.FULL);
        int[] row = new int[12];
        for (int i = 0; i < 12; i++) {
            row[i] = x.normal(i);
            CHECK.due("rising", i == 0 || row[i - 1] < row[i], true);
        }
        x.swap(0, 7);
        x.swap(3, 5);
        x.swap(7, 2);
        normalRow(x, row);
        while (x.count(1) > 0) {
            x.drop(0);
        }
        for (int line : row) {
            x.add(line);
        }
        normalRow(x, row);
        // The lines the other way round: their order is of no account.
        for (int i = 11; i >= 0; i--) {
            x.add(x.drop(i));
        }
        CHECK.due("the first line now", x.line(0), row[11]);
        normalRow(x, row);
    }

    @Sentence(in = "Terms 2", says = "(the first number that is another one decides)")
    private static void firstNumberDecides() {
        // 3, 28 has a greater sum and a greater last number than 7, 24.
        normals("line 2 3;line 4 5 6;", 3, 28);
        // 3, 12, 112 (two pairs apart) and not 3, 28 (a pair, a triple, a pair behind it).
        normals("line 4 5 6;line 2 3;line 0 1;", 3, 12, 112);
        // 3, 5, 120 begins as 3, 5 does: the pairs meet in 0.
        normals("line 0 6;line 6 1;line 2 3 4 5;", 3, 5, 120);
    }

    // Of duals.

    @Sentence(in = "Terms 2", says = "The DUAL: POINTS are the LINES, as numbered")
    private static void dualPoints() {
        SchemeLister x = Check.told("points 3;line 2 0;line 0 1;");
        CHECK.due("turn", x.turn(), 1);
        CHECK.due("points", x.count(0), 2);
        SchemeLister y = Check.told(RING);
        CHECK.due("turn", y.turn(), 8);
        CHECK.due("points", y.count(0), 8);
        CHECK.due("the line of point 0", y.line(0), 0b10000001);
        CHECK.due("the line of point 7", y.line(7), 0b11000000);
    }

    @Sentence(in = "Terms 2", says = "LINES are the POINTS that are on 2 LINES at least, in their order")
    private static void dualLines() {
        // On none, on one, on two, on three lines.
        duals("points 8;line 7 6;line 7 5;line 7 4;line 4 3;", 12, 7);
        duals("line 0 1 2;");
        duals("line 0 1;line 2 3;");
        duals(TRIANGLE, 5, 3, 6);
    }

    @Sentence(in = "Terms 2", says = "(a POINT: the LINES that it is on)")
    private static void dualNumbers() {
        duals("points 5;line 0 1;line 0 2;line 0 3;line 0 4;", 15);
        duals(FOUR, 3, 5, 9, 6, 10, 12);
        duals("points 8;line 0 1;line 0 2;line 3 4;line 3 5;line 6 1;line 6 2;line 7 4;line 7 5;",
                3, 0b010001, 0b100010, 12, 0b1000100, 0b10001000, 48, 192);
    }

    @Sentence(in = "Terms 2", says = "There is none, if LINES are none or more than 8")
    private static void dualOfLines() {
        noDual("");
        noDual("points 1;");
        CHECK.due("of one line", Check.told("line 0 1;").dual(-1), 0);
        CHECK.due("of eight", Check.told(RING).dual(-1), 8);
        noDual(RING + "line 0 2;");
        noDual(Check.FULL);
    }

    @Sentence(in = "Terms 2", says = "or a POINT is on more than 4.")
    private static void dualOfPoints() {
        CHECK.due("on four", Check.told("points 5;line 0 1;line 0 2;line 0 3;line 0 4;").dual(-1), 1);
        noDual(STAR);
        // The last point, too.
        noDual("line 6 0;line 6 1;line 6 2;line 6 3;line 6 4;");
    }

    @Sentence(in = "Terms 2", says = "A DUALITY: if POINTS are as many as LINES")
    private static void dualityOfAsMany() {
        counts(11, TRIANGLE, 6);
        counts(11, "points 4;line 0 1;line 1 2;line 2 0;", 0);
        counts(11, FOUR, 0);
        counts(11, "points 1;", 0);
        counts(11, "points 2;line 0 1;", 0);
        counts(11, Check.FULL, 0);
    }

    @Sentence(in = "Terms 2", says = "for each POINT a LINE, none twice, so that POINTS of each LINE become LINES through one POINT")
    private static void duality() {
        counts(11, Check.FANO, 168);
        counts(11, RING, 16);
        counts(11, "points 4;line 0 1;line 1 2;line 2 3;line 3 0;", 8);
        // As many points on two, on three lines as lines of two, of three points, but these are otherwise joined.
        counts(11, "points 6;line 0 1;line 1 2;line 2 0;line 3 4;line 4 5;line 5 3;", 72);
    }

    @Sentence(in = "Terms 2", says = "that no others go through")
    private static void dualityNoOthers() {
        // Each two points of a line can become lines that meet; but through 0 there go three, through 3 one.
        counts(11, "points 4;line 0 1;line 0 2;line 0 3;line 1 2;", 0);
    }

    @Sentence(in = "Terms 2", says = "(each LINE another POINT)")
    private static void dualityEachAnother() {
        // If all lines met in 0, any names would do.
        counts(11, "points 5;line 0 1;line 0 2;line 0 3;line 0 4;line 1 2;", 0);
        counts(12, "points 5;line 0 1;line 0 2;line 0 3;line 0 4;line 1 2;", 0);
        // A point on one line alone, a point on five lines.
        counts(11, "points 4;line 0 1;line 1 2;line 2 0;line 2 3;", 0);
        counts(11, STAR + "line 1 2;", 0);
        counts(12, STAR + "line 1 2;", 0);
    }

    @Sentence(in = "Terms 2", says = "A POLARITY: one by which a POINT is on the LINE of another one if that is on the LINE of the first"
            + " one")
    private static void polarity() {
        counts(12, Check.FANO, 28);
        // Of the sixteen, those that go round by the same sense aren't: 1 is on the line of 0, and 0 not on that of 1.
        counts(12, RING, 8);
        counts(12, "points 4;line 0 1;line 1 2;line 2 0;", 0);
        counts(12, "points 2;line 0 1;", 0);
    }

    @Sentence(in = "Terms 2", says = "(whichever two; a POINT may be on its own LINE, or not)")
    private static void polarityOwnLine() {
        // A line is known by the point that it misses: 1 way by which no point is on its own, 3 by which two are.
        counts(12, TRIANGLE, 4);
        // Only pairs of points behind the first two make the difference in some of the ways.
        counts(12, "points 6;line 0 1;line 1 2;line 2 0;line 3 4;line 4 5;line 5 3;", 22);
    }

    // Of likeness.

    @Sentence(in = "Terms 2", says = "LIKE are two SCHEMES with as many POINTS, as many LINES")
    private static void likeAsMany() {
        shelved(0, "points 3;line 0 1;", "points 4;line 0 1;", 0);
        shelved(0, "points 4;line 0 1;", "points 3;line 0 1;", 0);
        shelved(0, "points 3;line 0 1;line 1 2;", "points 3;line 0 1;", 0);
        shelved(0, "points 3;line 0 1;", "points 3;line 0 1;line 1 2;", 0);
        shelved(0, "points 3;line 0 1;", "points 3;line 1 2;", 2);
        shelved(0, "points 3;", "points 4;", 0);
        shelved(0, "points 1;", "points 1;", 1);
        shelved(0, "points 8;", "points 8;", 40320);
    }

    @Sentence(in = "Terms 2", says = "if POINTS of one can be named (a WAY) so that its LINES are those of the other one.")
    private static void like() {
        // A line within another one isn't that one.
        shelved(0, "points 3;line 0 1;", "points 3;line 0 1 2;", 0);
        shelved(0, "points 3;line 0 1 2;", "points 3;line 0 1;", 0);
        shelved(0, Check.FULL, Check.FULL, 48);
        shelved(0, "line 6 5 4;line 4 3 2;line 1 0 4;", PENCIL, 48);
        // As many lines of as many points each, as many through each point.
        shelved(0, "points 6;line 0 1;line 1 2;line 2 0;line 3 4;line 4 5;line 5 3;",
                "points 6;line 0 1;line 1 2;line 2 3;line 3 4;line 4 5;line 5 0;", 0);
    }

    @Sentence(in = "Terms 2", says = "A SCHEME LIES IN another one by a WAY: its POINTS are some of that one's, none twice")
    private static void liesIn() {
        shelved(1, "points 3;", "points 4;", 24);
        shelved(1, "points 4;", "points 3;", 0);
        shelved(1, "points 8;", "points 8;", 40320);
        shelved(1, "points 1;", Check.FULL, 8);
        shelved(1, "points 8;", Check.FULL, 40320);
        shelved(1, Check.FULL, "points 8;", 0);
        // The line could be had, but not the fourth point.
        shelved(1, "points 4;line 0 1 2;", "points 3;line 0 1 2;", 0);
    }

    @Sentence(in = "Terms 2", says = "so that each of its LINES lies within a LINE")
    private static void liesWithin() {
        shelved(1, "points 2;line 0 1;", "points 3;line 0 1 2;", 6);
        shelved(1, "points 2;line 0 1;", "points 3;line 0 1;", 2);
        shelved(1, "points 3;line 0 1 2;", "points 3;line 0 1;", 0);
        shelved(1, "points 3;line 0 1 2;", TRIANGLE, 0);
        shelved(1, "points 4;line 0 1 2 3;", "points 4;line 0 1 2 3;", 24);
        shelved(1, "points 3;line 0 1 2;", "points 4;line 0 1 2 3;", 24);
        shelved(1, TRIANGLE, Check.FANO, 168);
    }

    @Sentence(in = "Terms 2", says = "unlike ones in unlike ones.")
    private static void unlikeOnes() {
        shelved(1, "points 3;line 0 1;line 1 2;", "points 3;line 0 1 2;", 0);
        shelved(1, "points 4;line 0 1;line 2 3;", "points 4;line 0 1 2 3;", 0);
        shelved(1, "points 4;line 0 1;line 2 3;", "points 4;line 0 1;line 1 2;line 2 3;", 8);
        shelved(1, TRIANGLE, "points 4;line 0 1 2 3;", 0);
        shelved(1, "points 3;line 0 1;line 1 2;", TRIANGLE, 6);
    }

    // Promise 5.

    @Sentence(in = "Promise 5", says = "0 POINTS")
    private static void countPoints() {
        counts(0, "", 7);
        counts(0, "points 1;", 1);
        counts(0, "points 8;", 8);
    }

    @Sentence(in = "Promise 5", says = "1 LINES")
    private static void countLines() {
        counts(1, "", 0);
        counts(1, Check.FULL, 12);
    }

    @Sentence(in = "Promise 5", says = "2 FLAGS")
    private static void countFlags() {
        counts(2, "points 8;", 0);
        counts(2, "points 8;line 4 5 6 7;line 3 2 1 0;", 8);
    }

    @Sentence(in = "Promise 5", says = "3 whether REGULAR")
    private static void countRegular() {
        counts(3, "points 8;", 1);
        counts(3, "points 2;line 0 1;", 1);
        counts(3, "points 3;line 0 1;", 0);
    }

    @Sentence(in = "Promise 5", says = "4 r, 5 k (NONE: it isn't)")
    private static void countRegularBy() {
        counts(4, "points 2;line 0 1;", 1);
        counts(5, "points 2;line 0 1;", 2);
        counts(4, "points 3;line 0 1;", -1);
        counts(5, "points 3;line 0 1;", -1);
        counts(4, "points 5;line 0 1;line 2 3 4;", -1);
        counts(5, "points 5;line 0 1;line 2 3 4;", -1);
    }

    @Sentence(in = "Promise 5", says = "6 pairs that are JOINED")
    private static void countJoined() {
        counts(6, "points 8;", 0);
        counts(6, "points 8;line 0 7;", 1);
        counts(6, Check.FULL, 28);
    }

    @Sentence(in = "Promise 5", says = "7 TRIANGLES")
    private static void countTriangles() {
        counts(7, "", 0);
        // Three points of eight that are on no line of three: 56 less 8.
        counts(7, Check.FULL, 48);
    }

    @Sentence(in = "Promise 5", says = "8 PIECES")
    private static void countPieces() {
        counts(8, Check.FULL, 1);
        counts(8, "points 8;line 0 7;", 7);
    }

    @Sentence(in = "Promise 5", says = "9 SYMMETRIES")
    private static void countSymmetries() {
        counts(9, Check.TREE, 1);
        counts(9, Check.FANO, 168);
    }

    @Sentence(in = "Promise 5", says = "10 ORBITS")
    private static void countOrbits() {
        counts(10, "points 1;", 1);
        counts(10, "points 8;", 1);
        counts(10, Check.TREE, 7);
    }

    @Sentence(in = "Promise 5", says = "11 DUALITIES")
    private static void countDualities() {
        counts(11, "", 0);
        counts(11, RING, 16);
    }

    @Sentence(in = "Promise 5", says = "12 POLARITIES")
    private static void countPolarities() {
        counts(12, "", 0);
        counts(12, RING, 8);
    }

    @Sentence(in = "Promise 5", says = "13 SLIPS")
    private static void countSlips() {
        counts(13, "", 0);
        counts(13, Check.FULL, 12);
        counts(13, "points 2;line 0 1;at 1 0 1;", 0);
    }

    @Sentence(in = "Promise 5", says = "14 STRAYS")
    private static void countStrays() {
        counts(14, "points 2;", 0);
        counts(14, "points 3;", 1);
        counts(14, "points 8;", 56);
        counts(14, Check.FULL, 48);
    }

    @Sentence(in = "Promise 5", says = "15 GIRTH (NONE)")
    private static void countGirth() {
        counts(15, "", -1);
        counts(15, PATH, -1);
        counts(15, TRIANGLE, 3);
        counts(15, RING, 8);
    }

    @Sentence(in = "Promise 5", says = "16 ACTS that are kept")
    private static void countActs() {
        SchemeLister x = Check.told("points 8;line 0 1;");
        CHECK.due("none", x.count(16), 0);
        for (int i = 1; i <= 41; i++) {
            x.put(i % 4);
            CHECK.due("acts", x.count(16), Math.min(i, 40));
        }
        x.undo();
        CHECK.due("one less", x.count(16), 39);
        x.add(0);
        CHECK.due("a refused one isn't kept", x.count(16), 39);
    }

    @Sentence(in = "Promise 5", says = "17 bytes of the tape")
    private static void countBytes() {
        SchemeLister x = new SchemeLister();
        CHECK.due("none", x.count(17), 0);
        for (int i = 0; i < 21; i++) {
            x.feed(1, 2, 3, 4, 5);
        }
        CHECK.due("full", x.count(17), 400);
    }

    @Sentence(in = "Promise 5", says = "18, 19 STATUS 0, 1")
    private static void countStatus() {
        SchemeLister x = new SchemeLister();
        for (int i = 0; i < 50; i++) {
            CHECK.due("STATUS 0", x.count(18), i);
            CHECK.due("STATUS 1", x.count(19), 2 * i);
            x.add(0);
            x.drop(0);
            Check.tell(x, "x");
        }
    }

    @Sentence(in = "Promise 5", says = "20 FOURS")
    private static void countFours() {
        counts(20, "", 0);
        counts(20, Check.FANO, 7);
    }

    @Sentence(in = "Promise 5", says = "21 APART.")
    private static void countApart() {
        counts(21, "points 8;", 0);
        // Of 66 pairs 48 meet, six in each of the eight points.
        counts(21, Check.FULL, 18);
    }

    @Sentence(in = "Promise 5", says = "NoSuchElementException: another what.")
    private static void countOther() {
        SchemeLister x = Check.told(Check.FULL);
        CHECK.noSuch("count", x::count, ODD);
        CHECK.noSuch("count", x::count, 22, -2, 256, 100);
        CHECK.due("count(21)", x.count(21), 18);
        CHECK.thrown("count(22)", x, y -> y.count(22), "NoSuchElementException");
    }

    // Promises 6 to 9.

    @Sentence(in = "Promise 6", says = "A LINE's number.")
    private static void line() {
        SchemeLister x = Check.told(Check.FULL);
        CHECK.due("the first", x.line(0), 7);
        CHECK.due("the last", x.line(11), 10);
        CHECK.due("the highest", Check.told("points 8;line 4 5 6 7;").line(0), 240);
    }

    @Sentence(in = "Promise 6", says = "NoSuchElementException: there is none.")
    private static void noLine() {
        SchemeLister x = Check.told(Check.FULL);
        CHECK.noSuch("line", x::line, ODD);
        CHECK.noSuch("line", x::line, 12);
        CHECK.noSuch("line of none", Check.told("")::line, 0, 7);
        CHECK.noSuch("line of one", Check.told("line 0 1;")::line, 1);
        CHECK.thrown("line(12)", x, y -> y.line(12), "NoSuchElementException");
    }

    @Sentence(in = "Promise 7", says = "Of a POINT: 0 the LINES it is on (bits)")
    private static void linesOfAPoint() {
        SchemeLister x = Check.told(Check.FULL);
        CHECK.due("lines on 0", x.point(0, 0), 1 | 1 << 2 | 1 << 6 | 1 << 10);
        CHECK.due("lines on 3", x.point(3, 0), 1 << 1 | 1 << 2 | 1 << 5 | 1 << 11);
        CHECK.due("on none", Check.told("points 1;").point(0, 0), 0);
    }

    @Sentence(in = "Promise 7", says = "1 X, 2 Y")
    private static void xAndY() {
        SchemeLister x = Check.told("points 8;at 7 -9 9;at 0 9 -9;");
        CHECK.due("x of 7", x.point(7, 1), -9);
        CHECK.due("y of 7", x.point(7, 2), 9);
        CHECK.due("x of 0", x.point(0, 1), 9);
        CHECK.due("y of 0", x.point(0, 2), -9);
        CHECK.due("x of 1", x.point(1, 1), 0);
    }

    @Sentence(in = "Promise 7", says = "3 the least of its ORBIT")
    private static void leastOfOrbit() {
        SchemeLister x = Check.told("points 8;line 7 6;line 1 2 3;");
        CHECK.due("of 0", x.point(0, 3), 0);
        CHECK.due("of 5", x.point(5, 3), 0);
        CHECK.due("of 3", x.point(3, 3), 1);
        CHECK.due("of 7", x.point(7, 3), 6);
        CHECK.due("of 6", x.point(6, 3), 6);
    }

    @Sentence(in = "Promise 7", says = "4 the least of its PIECE.")
    private static void leastOfPiece() {
        SchemeLister x = Check.told("points 8;line 7 6;line 1 2 3;");
        CHECK.due("of 0", x.point(0, 4), 0);
        CHECK.due("of 5", x.point(5, 4), 5);
        CHECK.due("of 3", x.point(3, 4), 1);
        CHECK.due("of 7", x.point(7, 4), 6);
    }

    @Sentence(in = "Promise 7", says = "NoSuchElementException: no such POINT (as everywhere)")
    private static void noPoint() {
        noPoint(Check.told("points 1;"), 1);
        noPoint(Check.told(""), 7);
        noPoint(Check.told("points 8;"), 8);
    }

    private static void noPoint(SchemeLister x, int next) {
        for (int w : new int[] {next, -2, Check.LEAST, Check.MOST}) {
            CHECK.noSuch("point", what -> x.point(w, what), 0, 1, 2, 3, 4);
            CHECK.noSuch("joined", p -> x.joined(w, p), 0);
            CHECK.noSuch("joined", p -> x.joined(p, w), 0);
            CHECK.noSuch("symmetry", i -> x.symmetry(i, w), 0);
            CHECK.noSuch("square", g -> x.square(g, w), 4);
            CHECK.noSuch("plane", q -> x.plane(q, w), 3);
            CHECK.noSuch("far", p -> x.far(w, p), 0);
            CHECK.noSuch("far", p -> x.far(p, w), 0);
        }
        CHECK.noSuch("point", what -> x.point(-1, what), 0, 1, 2, 3, 4);
    }

    @Sentence(in = "Promise 7", says = "another what.")
    private static void pointOther() {
        SchemeLister x = Check.told("points 8;");
        CHECK.noSuch("point 7", what -> x.point(7, what), ODD);
        CHECK.noSuch("point 7", what -> x.point(7, what), 5);
        CHECK.noSuch("point 8", what -> x.point(8, what), 5);
    }

    @Sentence(in = "Promise 8", says = "The LINE on which two POINTS are")
    private static void joinedBy() {
        SchemeLister x = Check.told(Check.FULL);
        CHECK.due("by the first", x.joined(0, 1), 0);
        CHECK.due("by the last", x.joined(3, 1), 11);
        CHECK.due("and back", x.joined(1, 3), 11);
        CHECK.due("the last two", x.joined(6, 7), 8);
    }

    @Sentence(in = "Promise 8", says = "NONE: they aren't JOINED.")
    private static void notJoined() {
        SchemeLister x = Check.told("line 0 1;line 1 2;");
        CHECK.due("by two lines", x.joined(0, 2), -1);
        CHECK.due("one of them on none", x.joined(0, 6), -1);
        CHECK.due("both on none", x.joined(5, 6), -1);
    }

    @Sentence(in = "Promise 8", says = "NoSuchElementException.")
    private static void joinedNoPoint() {
        SchemeLister x = Check.told("points 3;line 0 1;");
        CHECK.noSuch("joined", p -> x.joined(0, p), 3, -1, Check.LEAST, Check.MOST);
        CHECK.noSuch("joined", p -> x.joined(p, 0), 3, -1, Check.LEAST, Check.MOST);
    }

    @Sentence(in = "Promise 8", says = "IllegalArgumentException (behind that): they are one.")
    private static void joinedOne() {
        SchemeLister x = Check.told("points 3;line 0 1;");
        CHECK.illegal("joined", p -> x.joined(p, p), 0, 1, 2);
        CHECK.noSuch("joined", p -> x.joined(p, p), 3, -1, Check.LEAST, Check.MOST);
    }

    @Sentence(in = "Promise 9", says = "The POINT in which two LINES meet")
    private static void meetIn() {
        SchemeLister x = Check.told(Check.FULL);
        CHECK.due("in 0", x.meet(0, 2), 0);
        CHECK.due("in 7", x.meet(8, 3), 7);
        CHECK.due("and back", x.meet(3, 8), 7);
        CHECK.due("the last two", x.meet(11, 1), 3);
    }

    @Sentence(in = "Promise 9", says = "NONE: they don't.")
    private static void meetNot() {
        SchemeLister x = Check.told(Check.FULL);
        CHECK.due("apart", x.meet(0, 1), -1);
        CHECK.due("the last two", x.meet(10, 11), -1);
    }

    @Sentence(in = "Promise 9", says = "NoSuchElementException: no such LINES.")
    private static void meetNoLine() {
        SchemeLister x = Check.told("line 0 1;line 1 2;");
        CHECK.noSuch("meet", l -> x.meet(0, l), 2, -1, Check.LEAST, Check.MOST);
        CHECK.noSuch("meet", l -> x.meet(l, 0), 2, -1, Check.LEAST, Check.MOST);
        CHECK.noSuch("meet of none", l -> Check.told("").meet(l, l), 0, 1);
    }

    @Sentence(in = "Promise 9", says = "IllegalArgumentException (behind that): they are one.")
    private static void meetOne() {
        SchemeLister x = Check.told("line 0 1;line 1 2;");
        CHECK.illegal("meet", l -> x.meet(l, l), 0, 1);
        CHECK.noSuch("meet", l -> x.meet(l, l), 2, -1, Check.LEAST, Check.MOST);
    }

    // Promises 10 to 14.

    @Sentence(in = "Promise 10", says = "What a POINT becomes by the i-th SYMMETRY.")
    private static void symmetryOf() {
        CHECK.due("the only one", Check.told("points 1;").symmetry(0, 0), 0);
        SchemeLister x = Check.told(RING);
        CHECK.same("the first", symmetry(x, 0), "01234567");
        CHECK.same("the second", symmetry(x, 1), "07654321");
        CHECK.same("the last", symmetry(x, 15), "76543210");
        CHECK.same("the third again", symmetry(x, 2), "10765432");
        CHECK.same("the second again", symmetry(x, 1), "07654321");
        // Another scheme has others.
        x.drop(7);
        CHECK.same("the second of the path", symmetry(x, 1), "76543210");
        x.undo();
        CHECK.same("the second of the ring again", symmetry(x, 1), "07654321");
    }

    @Sentence(in = "Promise 10", says = "NoSuchElementException: also there is none.")
    private static void noSymmetry() {
        SchemeLister x = Check.told(RING);
        CHECK.noSuch("symmetry", i -> x.symmetry(i, 0), 16, -1, Check.LEAST, Check.MOST);
        CHECK.noSuch("symmetry of a tree", i -> Check.told(Check.TREE).symmetry(i, 6), 1, -1);
        CHECK.noSuch("symmetry of eight", i -> Check.told("points 8;").symmetry(i, 7), 40320);
        CHECK.noSuch("symmetry 0 of", p -> x.symmetry(0, p), 8, -1);
    }

    @Sentence(in = "Promise 11", says = "The number of the i-th LINE, as it is NORMAL (rising).")
    private static void normalLine() {
        normals("points 8;line 5 6 7;line 0 1;line 2 3;", 3, 12, 112);
        normals(RING, 3, 5, 10, 20, 40, 80, 160, 192);
    }

    @Sentence(in = "Promise 11", says = "NoSuchElementException: there is none.")
    private static void noNormal() {
        SchemeLister x = Check.told("line 0 1;line 1 2;");
        CHECK.noSuch("normal", x::normal, 2, -1, Check.LEAST, Check.MOST);
        CHECK.noSuch("normal of none", Check.told("")::normal, 0);
        CHECK.noSuch("normal of twelve", Check.told(Check.FULL)::normal, 12);
    }

    @Sentence(in = "Promise 12", says = "The DUAL: the number of its i-th LINE")
    private static void dualLine() {
        duals(RING, 129, 3, 6, 12, 24, 48, 96, 192);
    }

    @Sentence(in = "Promise 12", says = "of i NONE how many LINES (NONE: there is no DUAL).")
    private static void dualHowMany() {
        CHECK.due("none", Check.told("line 0 1;line 2 3;").dual(-1), 0);
        CHECK.due("eight", Check.told(RING).dual(-1), 8);
        CHECK.due("no dual", Check.told("").dual(-1), -1);
        CHECK.due("no dual", Check.told(Check.FULL).dual(-1), -1);
    }

    @Sentence(in = "Promise 12", says = "NoSuchElementException: there is none.")
    private static void noDualLine() {
        CHECK.noSuch("dual of a ring", Check.told(RING)::dual, 8, -2, Check.LEAST, Check.MOST);
        CHECK.noSuch("dual without lines", Check.told("line 0 1;line 2 3;")::dual, 0, 1, -2);
        CHECK.noSuch("dual where there is none", Check.told("")::dual, 0, -2, Check.LEAST, Check.MOST);
        CHECK.noSuch("dual where there is none", Check.told(STAR)::dual, 0, 1, -2);
    }

    @Sentence(in = "Promise 13", says = "What is on a SHELF: LIKE, by how many WAYS (what 0)")
    private static void shelfLike() {
        shelved(0, "points 8;", "points 8;", 40320);
        shelved(0, TRIANGLE, "points 3;line 2 1;line 1 0;line 0 2;", 6);
        shelved(0, TRIANGLE, "points 3;line 2 1;line 1 0;", 0);
    }

    @Sentence(in = "Promise 13", says = "LIES IN it, by how many WAYS (1)")
    private static void shelfLiesIn() {
        // What is there lies in the scheme, not the scheme in that.
        shelved(1, "points 3;line 0 1;line 1 2;", TRIANGLE, 6);
        shelved(1, TRIANGLE, "points 3;line 0 1;line 1 2;", 0);
        shelved(1, "points 2;line 0 1;", Check.FULL, 56);
        // Of two shelves each, and behind a change.
        SchemeLister x = Check.told("points 2;");
        x.put(0);
        x.add(3);
        x.put(1);
        x.grow(true);
        CHECK.due("two points in three", x.shelf(0, 1), 6);
        CHECK.due("a line in one", x.shelf(1, 1), 2);
        CHECK.due("two points again", x.shelf(0, 1), 6);
        x.add(6);
        CHECK.due("two points in three", x.shelf(0, 1), 6);
        CHECK.due("a line in two", x.shelf(1, 1), 4);
        x.add(5);
        CHECK.due("a line in three", x.shelf(1, 1), 6);
    }

    @Sentence(in = "Promise 13", says = "its POINTS (2), LINES (3).")
    private static void shelfCounts() {
        shelved(2, "points 1;", Check.FULL, 1);
        shelved(3, "points 1;", Check.FULL, 0);
        shelved(2, Check.FULL, "points 1;", 8);
        shelved(3, Check.FULL, "points 1;", 12);
    }

    @Sentence(in = "Promise 13", says = "NoSuchElementException: no such SHELF")
    private static void noShelf() {
        SchemeLister x = new SchemeLister();
        for (int i = 0; i < 4; i++) {
            x.put(i);
        }
        CHECK.due("shelf 0", x.shelf(0, 2), 7);
        CHECK.due("shelf 3", x.shelf(3, 2), 7);
        CHECK.noSuch("shelf", i -> x.shelf(i, 2), 4, -1, Check.LEAST, Check.MOST);
    }

    @Sentence(in = "Promise 13", says = "nothing is there")
    private static void emptyShelf() {
        SchemeLister x = new SchemeLister();
        CHECK.noSuch("shelf 0", what -> x.shelf(0, what), 0, 1, 2, 3);
        x.put(2);
        CHECK.noSuch("shelf", i -> x.shelf(i, 3), 0, 1, 3);
        CHECK.due("shelf 2", x.shelf(2, 3), 0);
        x.undo();
        CHECK.noSuch("shelf", i -> x.shelf(i, 3), 2);
    }

    @Sentence(in = "Promise 13", says = "another what.")
    private static void shelfOther() {
        SchemeLister x = new SchemeLister();
        x.put(0);
        CHECK.noSuch("shelf 0", what -> x.shelf(0, what), 4, -1, Check.LEAST, Check.MOST);
        CHECK.noSuch("shelf 1", what -> x.shelf(1, what), 4, -1);
    }

    private static void ways(String there, String here, int... due) {
        SchemeLister x = Check.both(there, here);
        for (int p = 0; p < due.length; p++) {
            CHECK.due("way(1, " + p + ") of '" + there + "' in '" + here + "'", x.way(1, p), due[p]);
        }
        CHECK.noSuch("way(1, ..) of '" + there + "' in '" + here + "'", p -> x.way(1, p), due.length, -1);
    }

    @Sentence(in = "Promise 14", says = "The first WAY (by what POINT 0 of the SHELF becomes, then 1 ..) by which what is there LIES IN"
            + " it: what a POINT of that becomes")
    private static void firstWay() {
        ways("points 1;", Check.FULL, 0);
        ways("points 8;", Check.FULL, 0, 1, 2, 3, 4, 5, 6, 7);
        // 0 can be any point of the line, but 1 and 2 not the least then.
        ways("points 4;line 1 2;", "points 4;line 2 3;", 0, 2, 3, 1);
        ways("points 3;line 0 1;line 1 2;", "points 4;line 0 3;line 3 1;", 0, 3, 1);
        ways("points 2;line 0 1;", "points 7;line 4 6;", 4, 6);
        // The only way.
        SchemeLister x = Check.told(Check.TREE);
        x.put(1);
        CHECK.due("ways", x.shelf(1, 1), 1);
        CHECK.due("the end becomes itself", x.way(1, 6), 6);
        x.swap(0, 6);
        CHECK.due("ways", x.shelf(1, 1), 1);
        CHECK.due("the middle becomes the end", x.way(1, 0), 6);
        CHECK.due("the end becomes the middle", x.way(1, 6), 0);
        CHECK.due("another one becomes itself", x.way(1, 3), 3);
    }

    @Sentence(in = "Promise 14", says = "NONE: there is no WAY.")
    private static void noWay() {
        ways("points 3;", "points 2;", -1, -1, -1);
        ways(TRIANGLE, "points 3;line 0 1 2;", -1, -1, -1);
        ways("points 8;", "points 1;", -1, -1, -1, -1, -1, -1, -1, -1);
    }

    @Sentence(in = "Promise 14", says = "NoSuchElementException: also nothing is there")
    private static void wayNothingThere() {
        SchemeLister x = new SchemeLister();
        CHECK.noSuch("way on shelf", i -> x.way(i, 0), 0, 1, 2, 3, 4, -1, Check.LEAST, Check.MOST);
        x.put(3);
        CHECK.due("way on shelf 3", x.way(3, 6), 6);
        CHECK.noSuch("way on shelf", i -> x.way(i, 0), 0, 1, 2, 4);
    }

    @Sentence(in = "Promise 14", says = "no such POINT there.")
    private static void wayNoPoint() {
        SchemeLister x = Check.both("points 2;line 0 1;", Check.FULL);
        CHECK.noSuch("way(1, ..)", p -> x.way(1, p), 2, 7, -1, Check.LEAST, Check.MOST);
        SchemeLister y = Check.both("points 8;", "points 2;");
        CHECK.due("way(1, 7)", y.way(1, 7), -1);
        CHECK.noSuch("way(1, ..)", p -> y.way(1, p), 8, -1);
    }
}
