import java.math.BigInteger;
import java.util.ArrayList;
import java.util.List;

/** What the document says of lists, drawings, sets, the game and the years, and promises 24 to 30, each by a test of its own. */
@Covers({"Terms 3", "Game", "Promise 24", "Promise 25", "Promise 26", "Promise 27", "Promise 28", "Promise 29", "Promise 30"})
public final class BoundaryDrawTest {
    private static final Check CHECK = new Check();
    private static final String TRIANGLE = "points 3;line 0 1;line 1 2;line 2 0;";
    private static final String PATH = "points 8;line 0 1;line 1 2;line 2 3;line 3 4;line 4 5;line 5 6;line 6 7;";
    private static final String PENCIL = "line 0 1 2;line 0 3 4;line 0 5 6;";
    private static final String FOUR = "points 6;line 0 1 2;line 0 3 4;line 1 3 5;line 2 4 5;";
    /** Each of four points with each of three others; the four are free for a line of their own. */
    private static final String CROSSED = "points 8;line 0 4;line 0 5;line 0 6;line 1 4;line 1 5;line 1 6;line 2 4;line 2 5;"
            + "line 2 6;line 3 4;line 3 5;line 3 6;";

    public static void main(String[] args) throws Exception {
        Boundaries.run(BoundaryDrawTest.class, CHECK);
    }

    private static void counts(int what, String text, int due) {
        CHECK.due("count(" + what + ") of '" + text + "'", Check.told(text).count(what), due);
    }

    private static void sets(int what, String text, int due) {
        CHECK.due("set(" + what + ") of '" + text + "'", Check.told(text).set(what), due);
    }

    private static void listed(int n, int m, int i, int... due) {
        SchemeLister x = new SchemeLister();
        for (int j = 0; j < due.length; j++) {
            CHECK.due("list(" + n + ", " + m + ", " + i + ", " + j + ")", x.list(n, m, i, j), due[j]);
        }
        CHECK.noSuch("list(" + n + ", " + m + ", " + i + ", ..)", j -> x.list(n, m, i, j), due.length, -1);
    }

    private static void square(String text, int g, int... due) {
        SchemeLister x = Check.told(text);
        for (int p = 0; p < due.length; p++) {
            CHECK.due("square(" + g + ", " + p + ") of '" + text + "'", x.square(g, p), due[p]);
        }
        CHECK.noSuch("square(" + g + ", ..) of '" + text + "'", p -> x.square(g, p), due.length);
    }

    private static void noSquare(String text, int g) {
        SchemeLister x = Check.told(text);
        for (int p = 0; p < x.count(0); p++) {
            CHECK.due("square(" + g + ", " + p + ") of '" + text + "'", x.square(g, p), -1);
        }
    }

    private static void plane(String text, int q, int many, int... due) {
        SchemeLister x = Check.told(text);
        CHECK.due("plane(" + q + ", -1) of '" + text + "'", x.plane(q, -1), many);
        for (int p = 0; p < due.length; p++) {
            CHECK.due("plane(" + q + ", " + p + ") of '" + text + "'", x.plane(q, p), due[p]);
        }
        CHECK.noSuch("plane(" + q + ", ..) of '" + text + "'", p -> x.plane(q, p), due.length);
    }

    private static void noPlane(String text, int q) {
        SchemeLister x = Check.told(text);
        CHECK.due("plane(" + q + ", -1) of '" + text + "'", x.plane(q, -1), 0);
        for (int p = 0; p < x.count(0); p++) {
            CHECK.due("plane(" + q + ", " + p + ") of '" + text + "'", x.plane(q, p), -1);
        }
    }

    // Of lists.

    @Sentence(in = "Terms 3", says = "LIST of n POINTS (3 to 7), m LINES (0 to 7)")
    private static void listBounds() {
        SchemeLister x = new SchemeLister();
        CHECK.due("3 points, no line", x.list(3, 0, -1, 0), 1);
        CHECK.due("3 points, 7 lines", x.list(3, 7, -1, 0), 0);
        CHECK.due("7 points, no line", x.list(7, 0, -1, 0), 1);
        CHECK.due("7 points, 7 lines", x.list(7, 7, -1, 0), 1);
        CHECK.illegal("list(.., 1, -1, 0)", n -> x.list(n, 1, -1, 0), 2, 8);
        CHECK.illegal("list(7, .., -1, 0)", m -> x.list(7, m, -1, 0), -1, 8);
    }

    @Sentence(in = "Terms 3", says = "all SCHEMES of m LINES of 3 POINTS each that are NORMAL as they are: how many")
    private static void listAll() {
        int[][] due = {{1, 1, 0, 0, 0, 0, 0, 0}, {1, 1, 0, 0, 0, 0, 0, 0}, {1, 1, 1, 0, 0, 0, 0, 0}, {1, 1, 2, 1, 1, 0, 0, 0},
            {1, 1, 2, 3, 3, 2, 1, 1}};
        // From few lines on, and from all of them back, on objects of their own.
        SchemeLister x = new SchemeLister();
        SchemeLister y = new SchemeLister();
        for (int n = 3; n <= 7; n++) {
            for (int m = 0; m <= 7; m++) {
                CHECK.due("list(" + n + ", " + m + ", -1, 0)", x.list(n, m, -1, 0), due[n - 3][m]);
                CHECK.due("list(" + n + ", " + (7 - m) + ", -1, 0)", y.list(n, 7 - m, -1, 0), due[n - 3][7 - m]);
            }
        }
    }

    @Sentence(in = "Terms 3", says = "the j-th LINE of the i-th, by their rows, the least first.")
    private static void listRows() {
        listed(7, 0, 0);
        listed(3, 1, 0, 7);
        listed(6, 2, 0, 7, 25);
        listed(6, 2, 1, 7, 56);
        listed(7, 3, 0, 7, 25, 42);
        listed(7, 3, 1, 7, 25, 97);
        listed(7, 3, 2, 7, 25, 98);
        listed(6, 4, 0, 7, 25, 42, 52);
        listed(7, 7, 0, 7, 25, 42, 52, 76, 82, 97);
    }

    // Of drawings.

    @Sentence(in = "Terms 3", says = "DRAWN on a SQUARE of g by g places (2 to 4)")
    private static void squareBounds() {
        square("points 4;", 2, 0, 1, 2, 3);
        noSquare("points 5;", 2);
        square("points 6;", 3, 0, 1, 3, 5, 7, 8);
        square("points 8;", 4, 0, 1, 6, 7, 8, 9, 14, 15);
        square("points 4;line 0 1 2 3;", 4, 0, 1, 2, 3);
        SchemeLister x = Check.told("points 1;");
        CHECK.illegal("square(.., 0)", g -> x.square(g, 0), 1, 5);
    }

    @Sentence(in = "Terms 3", says = "POINTS on places, none twice")
    private static void squareNoneTwice() {
        square("points 1;", 2, 0);
        square("points 2;line 0 1;", 2, 0, 1);
        noSquare("points 8;", 2);
        // Seven points, two in each row of three at most.
        noSquare("points 7;", 3);
    }

    @Sentence(in = "Terms 3", says = "three of them in line just if they are on one LINE")
    private static void squareInLine() {
        // No three places of the least square are in line.
        noSquare("points 3;line 0 1 2;", 2);
        noSquare("points 4;line 0 1 2 3;", 3);
        square("points 3;line 0 1 2;", 3, 0, 1, 2);
        // Not on one line, though joined each two.
        square(TRIANGLE, 3, 0, 1, 3);
        square("points 4;line 0 1 2;", 3, 0, 1, 2, 3);
        square("points 6;line 0 1 2;line 3 4 5;", 3, 0, 1, 2, 3, 4, 5);
        noSquare(Check.FANO, 4);
    }

    @Sentence(in = "Terms 3", says = "the first way (by the place of POINT 0, then 1 ..: g times Y, and X): whether; the place of a"
            + " POINT.")
    private static void squareFirstWay() {
        // In a corner 0 would have 2, 4, 6 or the like in line; in the middle the least places are 0 and 8, 1 and 7, 3 and 5.
        square(PENCIL, 3, 4, 0, 8, 1, 7, 3, 5);
        square("points 3;", 3, 0, 1, 3);
        square("points 3;", 2, 0, 1, 2);
        square("points 5;line 1 0 2;line 3 0 4;", 3, 0, 1, 2, 3, 6);
        // All places but the last: the middle first, then those beside it, then the corners.
        square("points 8;line 5 1 6;line 2 0 3;line 5 2 7;line 1 0 4;line 6 0 7;", 3, 4, 1, 3, 5, 7, 0, 2, 6);
        // The same by other names: where 1 and 3 are, 4 has the first place alone.
        square("points 8;line 4 1 3;line 2 0 6;line 4 2 5;line 1 0 7;line 3 0 5;", 3, 4, 1, 3, 2, 0, 6, 5, 7);
    }

    @Sentence(in = "Terms 3", says = "DRAWN in the PLANE of 2 or 3")
    private static void planeBounds() {
        plane("points 1;", 2, 7, 0);
        plane("points 1;", 3, 13, 0);
        noPlane("points 8;", 2);
        SchemeLister x = Check.told("points 1;");
        CHECK.illegal("plane(.., 0)", q -> x.plane(q, 0), 1, 4);
        CHECK.illegal("plane(.., -1)", q -> x.plane(q, -1), 1, 4);
    }

    @Sentence(in = "Terms 3", says = "its places are triples (x, y, z) of numbers below that, but (0, 0, 0), the first one that isn't 0"
            + " being 1, numbered by (x, y, z) rising")
    private static void planePlaces() {
        // Of 2: 001, 010, 011, 100, 101, 110, 111. The first, the second, the next that isn't in line with these.
        plane("points 3;", 2, 168, 0, 1, 3);
        plane("points 4;", 2, 168, 0, 1, 3, 6);
        plane(Check.FANO, 2, 168, 0, 1, 3, 2, 5, 6, 4);
        // Of 3: 001, 010, 011, 012, 100, 101, 102, 110, 111, 112, 120, 121, 122.
        plane("points 3;", 3, 1404, 0, 1, 4);
        plane("points 4;", 3, 5616, 0, 1, 4, 8);
        plane("points 5;line 0 1 2 3;", 3, 2808, 0, 1, 2, 3, 4);
    }

    @Sentence(in = "Terms 3", says = "three are in line, if what they span (x1 (y2 z3 - y3 z2) and so on) is 0 MOD that")
    private static void planeInLine() {
        plane("points 3;line 0 1 2;", 2, 42, 0, 1, 2);
        plane("points 3;line 0 1 2;", 3, 312, 0, 1, 2);
        plane("points 4;line 0 1 2 3;", 3, 312, 0, 1, 2, 3);
        noPlane("points 4;line 0 1 2 3;", 2);
        // 110, 101, 011 span 2 or -2: in line MOD 2 alone.
        plane(FOUR, 2, 168, 0, 1, 2, 3, 4, 5);
        noPlane(Check.FANO, 3);
        // Two lines of a plane always meet.
        noPlane("points 6;line 0 1 2;line 3 4 5;", 2);
    }

    @Sentence(in = "Terms 3", says = "so: in how many ways; the first one.")
    private static void planeWays() {
        plane("points 2;", 2, 42, 0, 1);
        plane("points 2;line 0 1;", 3, 156, 0, 1);
        noPlane("points 5;", 2);
        noPlane("points 5;", 3);
        // The plane of 3 without a line and one place more; its lines through that place have two points.
        CHECK.due("plane(3, -1) of eight of nine", Check.told(Check.FULL).plane(3, -1), 5616);
        CHECK.due("plane(3, 0) of eight of nine", Check.told(Check.FULL).plane(3, 0), 0);
    }

    @Sentence(in = "Terms 3", says = "SLIPS: LINES whose POINTS aren't all in line AT")
    private static void slips() {
        counts(13, "line 0 1 2;at 0 -9 -9;at 2 9 9;", 0);
        counts(13, "line 0 1 2;at 0 -9 -9;at 1 8 9;at 2 9 9;", 1);
        counts(13, "line 0 1 2 3;at 1 1 2;at 2 2 4;at 3 -3 -6;", 0);
        counts(13, "line 0 1 2 3;at 1 1 2;at 2 2 4;at 3 3 5;", 1);
        counts(13, "line 0 1 2 3;at 0 0 1;at 1 1 2;at 2 2 4;at 3 3 6;", 1);
        counts(13, "line 0 1;line 1 2;at 1 9 9;at 2 -9 4;", 0);
        counts(13, "", 0);
        // Upright and level.
        counts(13, "line 0 1 2;at 1 0 9;at 2 0 -9;line 0 3 4;at 3 9 0;at 4 -9 0;", 0);
    }

    @Sentence(in = "Terms 3", says = "or two of which are AT the same")
    private static void slipsSame() {
        counts(13, "line 0 1;", 1);
        counts(13, "line 0 1;at 0 -9 9;at 1 -9 9;", 1);
        counts(13, "line 0 1;at 0 1 9;at 1 1 8;", 0);
        counts(13, "line 0 1;at 0 1 9;at 1 2 9;", 0);
        counts(13, "line 0 1 2;at 1 1 1;at 2 1 1;", 1);
        counts(13, "line 0 1 2 3;at 1 1 1;at 2 2 2;at 3 1 1;", 1);
        counts(13, Check.FULL, 12);
    }

    @Sentence(in = "Terms 3", says = "STRAYS: three POINTS, not all on one LINE, that are in line AT")
    private static void strays() {
        counts(14, "points 3;at 0 -9 -9;at 2 9 9;", 1);
        counts(14, "points 3;line 0 1 2;at 0 -9 -9;at 2 9 9;", 0);
        counts(14, "points 3;at 0 -9 -9;at 1 8 9;at 2 9 9;", 0);
        // On lines each two, but not all on one.
        counts(14, TRIANGLE + "at 0 1 2;at 1 2 4;", 1);
        counts(14, "points 4;line 0 1 2;at 0 1 0;at 1 2 0;at 2 3 0;at 3 4 0;", 3);
        counts(14, "points 4;line 0 1 2 3;at 0 1 0;at 1 2 0;at 2 3 0;at 3 4 0;", 0);
        counts(14, "points 2;", 0);
        counts(14, "points 1;", 0);
    }

    @Sentence(in = "Terms 3", says = "(those AT the same, too)")
    private static void straysSame() {
        counts(14, "points 3;", 1);
        counts(14, "points 8;", 56);
        counts(14, "points 3;at 1 1 2;at 2 1 2;", 1);
        counts(14, "points 4;at 1 1 2;at 2 1 2;at 3 5 5;", 2);
        counts(14, "points 3;line 0 1 2;", 0);
        counts(14, Check.FULL, 48);
    }

    // Of sets.

    @Sentence(in = "Terms 3", says = "COVER: the fewest POINTS such that each LINE has one of them (bits; of like ones the least)")
    private static void cover() {
        sets(0, "points 8;", 0);
        sets(0, "points 8;line 6 7;", 64);
        sets(0, "points 8;line 7 0;line 7 1;", 128);
        sets(0, TRIANGLE, 3);
        sets(0, Check.FANO, 11);
        // Three are left at most; 5, 6, 7 and all others with 6 and 7 hold a line.
        sets(0, Check.FULL, 79);
    }

    @Sentence(in = "Terms 3", says = "CAP: the most POINTS such that no LINE is within them (bits; of like ones the least)")
    private static void cap() {
        sets(1, "points 8;", 255);
        sets(1, "points 1;", 1);
        sets(1, "points 8;line 6 7;", 127);
        sets(1, "points 8;line 7 0;line 7 1;", 127);
        sets(1, TRIANGLE, 1);
        sets(1, Check.FANO, 29);
        // 0, 1, 2 are a line, 1 and 3 another one.
        sets(1, Check.FULL, 13);
    }

    @Sentence(in = "Terms 3", says = "HALVES: in how many ways POINTS part into two so that no LINE is within one (POINT 0 in the first"
            + " one)")
    private static void halves() {
        sets(2, "points 2;line 0 1;", 1);
        sets(2, "points 4;line 0 1 2 3;", 7);
        sets(2, "points 3;line 0 2;", 2);
        sets(2, "points 3;line 1 2;", 2);
        sets(2, TRIANGLE, 0);
        sets(2, Check.FULL, 0);
        sets(2, PATH, 1);
        // Without lines any part does, all points, too.
        sets(2, "points 8;", 128);
        sets(2, "points 1;", 1);
    }

    @Sentence(in = "Terms 3", says = "the first half of the least such (bits).")
    private static void firstHalf() {
        sets(3, "points 2;line 0 1;", 1);
        sets(3, "points 4;line 0 1 2 3;", 1);
        sets(3, "points 3;line 1 2;", 3);
        sets(3, PATH, 0b01010101);
        sets(3, TRIANGLE, -1);
        sets(3, "points 8;", 1);
    }

    @Sentence(in = "Terms 3", says = "SPREADS: sets of LINES such that each POINT is on just one of them: how many")
    private static void spreads() {
        sets(4, "points 8;", 0);
        sets(4, "points 1;", 0);
        sets(4, "points 2;line 0 1;", 1);
        sets(4, "points 3;line 0 1;", 0);
        sets(4, "points 3;line 0 1;line 1 2;", 0);
        sets(4, "points 4;line 0 1;line 2 3;line 0 2;line 1 3;", 2);
        // Four sets of two triples and a pair, and the four pairs.
        sets(4, Check.FULL, 5);
    }

    @Sentence(in = "Terms 3", says = "the least (bits of LINES).")
    private static void leastSpread() {
        sets(5, "points 4;line 0 1;line 2 3;line 0 2;line 1 3;", 3);
        sets(5, "points 4;line 0 1;line 0 2;line 1 3;line 2 3;", 6);
        sets(5, Check.FULL, 259);
        sets(5, "points 3;line 0 1;line 1 2;", -1);
    }

    @Sentence(in = "Terms 3", says = "FAR: by how many LINES, one behind the other, one POINT comes to another one (0 itself; none).")
    private static void far() {
        SchemeLister x = Check.told(PATH);
        CHECK.due("itself", x.far(0, 0), 0);
        CHECK.due("the last itself", x.far(7, 7), 0);
        CHECK.due("one line", x.far(0, 1), 1);
        CHECK.due("all lines", x.far(0, 7), 7);
        CHECK.due("and back", x.far(7, 0), 7);
        SchemeLister y = Check.told("points 5;line 0 1 2 3;");
        CHECK.due("by one line of four", y.far(0, 3), 1);
        CHECK.due("none", y.far(0, 4), -1);
        CHECK.due("none back", y.far(4, 0), -1);
        CHECK.due("itself on none", y.far(4, 4), 0);
    }

    @Sentence(in = "Terms 3", says = "GIRTH: the fewest LINES in a ring (3 on, unlike ones, each two side by side meeting")
    private static void girth() {
        counts(15, "points 8;", -1);
        counts(15, "line 0 1;line 1 2;", -1);
        counts(15, PATH, -1);
        counts(15, PATH + "line 7 0;", 8);
        counts(15, PATH + "line 7 0;line 0 4;", 5);
        counts(15, PATH + "line 7 0;line 0 3;", 4);
        counts(15, TRIANGLE, 3);
        counts(15, Check.FULL, 3);
        // A ring of five and one of four have a line in common; whichever is told first.
        counts(15, "line 0 1;line 1 2;line 2 3;line 3 4;line 4 5;line 5 6;line 6 0;line 0 4;", 4);
        counts(15, "line 0 4;line 4 5;line 5 6;line 6 0;line 0 1;line 1 2;line 2 3;line 3 4;", 4);
    }

    @Sentence(in = "Terms 3", says = "in unlike POINTS all around); none.")
    private static void girthUnlikePoints() {
        counts(15, PENCIL, -1);
        counts(15, "line 0 1;line 0 2;line 0 3;line 0 4;line 0 5;line 0 6;", -1);
        // Two of the ring's lines meet in 0 alone, whichever others go through it.
        counts(15, PENCIL + "line 1 3;", 3);
    }

    // Of the game.

    private static void game(String text, int worth, int point) {
        SchemeLister x = Check.told(text);
        CHECK.due("game(0) of '" + text + "'", x.game(0), worth);
        CHECK.due("game(1) of '" + text + "'", x.game(1), point);
    }

    @Sentence(in = "Game", says = "GAME: two take POINTS by turns, any that is free")
    private static void gameTurns() {
        game("points 3;line 0 1;line 1 2;", 1, 1);
        game("points 8;line 6 7;line 5 7;", 1, 7);
        // The other one takes what would make the line.
        game("points 2;line 0 1;", 0, 0);
    }

    @Sentence(in = "Game", says = "who first has all POINTS of a LINE wins")
    private static void gameFirst() {
        // Who begins elsewhere leaves 4 to the other one, who has a line first.
        game("points 6;line 0 1 2;line 3 4;line 4 5;", 1, 4);
        game(TRIANGLE, 1, 0);
        game(Check.FULL, 1, 0);
    }

    @Sentence(in = "Game", says = "all taken, nobody does")
    private static void gameNobody() {
        game("points 1;", 0, 0);
        game("points 8;", 0, 0);
        game("points 8;line 0 1 2 3;line 4 5 6 7;", 0, 0);
        game("points 4;line 0 1;line 2 3;", 0, 0);
    }

    @Sentence(in = "Game", says = "what the first one comes to, if both do their best (1 wins, 0 nobody, -1 the other one)")
    private static void gameWorth() {
        game(Check.FANO, 1, 0);
        game("points 7;line 0 1 2;line 3 4 5;", 0, 0);
        game(PATH, 1, 1);
    }

    @Sentence(in = "Game", says = "a POINT with which he best begins (the least).")
    private static void gamePoint() {
        game("points 8;line 3 4;line 4 5;line 6 4;line 7 6;", 1, 4);
        game("points 8;line 3 5;line 5 4;line 6 7;line 7 2;", 1, 5);
        // By 0 he makes the other one take 1, and takes 4 then.
        game("points 5;line 0 1;line 3 4;line 2 4;", 1, 0);
        // If nobody wins by either, the least that doesn't lose.
        game("points 8;line 6 7;", 0, 0);
    }

    // Of years.

    /** The first draws of a seed before MOD, by numbers that don't wrap. */
    private static int[] draws(int seed, int many) {
        BigInteger all = BigInteger.ONE.shiftLeft(32);
        BigInteger now = BigInteger.valueOf(seed).mod(all);
        int[] raw = new int[many];
        for (int i = 0; i < many; i++) {
            now = now.multiply(BigInteger.valueOf(1103515245)).add(BigInteger.valueOf(12345)).mod(all);
            raw[i] = now.shiftRight(16).intValue() & 32767;
        }
        return raw;
    }

    private interface Wish {
        boolean holds(int[] raw);
    }

    /** The least seed from 1 on whose draws are as wished. */
    private static int seed(Wish wish) {
        for (int seed = 1; seed < 1000000; seed++) {
            if (wish.holds(draws(seed, 12))) {
                return seed;
            }
        }
        throw new IllegalStateException("no seed draws so");
    }

    private static boolean unlike(int[] raw, int from, int points) {
        int a = raw[from] % points;
        int b = raw[from + 1] % points;
        int c = raw[from + 2] % points;
        return a != b && a != c && b != c;
    }

    private static int lineOf(int[] raw, int from, int points) {
        return 1 << raw[from] % points | 1 << raw[from + 1] % points | 1 << raw[from + 2] % points;
    }

    private static void years(String text, int seed, int n, int lines, int triangles, int added) {
        SchemeLister x = Check.told(text);
        String call = "years(" + seed + ", " + n + ", ";
        CHECK.due(call + "0) of '" + text + "'", x.years(seed, n, 0), lines);
        CHECK.due(call + "1) of '" + text + "'", x.years(seed, n, 1), triangles);
        CHECK.due(call + "2) of '" + text + "'", x.years(seed, n, 2), added);
    }

    /** Years once more, on lists and with draws that don't wrap. */
    private static void likeLists(String text, int seed, int n) {
        SchemeLister x = Check.told(text);
        List<Integer> lines = new ArrayList<>();
        for (int i = 0; i < x.count(1); i++) {
            lines.add(x.line(i));
        }
        int points = x.count(0);
        int[] raw = draws(seed, 4 * 60);
        int at = 0;
        int added = 0;
        for (int year = 0; year < n; year++) {
            if (raw[at++] % 3 < 2) {
                int line = lineOf(raw, at, points);
                at += 3;
                boolean fits = Integer.bitCount(line) == 3 && lines.size() < 12;
                for (int other : lines) {
                    fits &= Integer.bitCount(other & line) < 2;
                }
                if (fits) {
                    lines.add(line);
                    added++;
                }
            } else if (!lines.isEmpty()) {
                lines.remove(raw[at++] % lines.size());
            }
        }
        int triangles = 0;
        for (int a = 0; a < lines.size(); a++) {
            for (int b = 0; b < a; b++) {
                for (int c = 0; c < b; c++) {
                    int ab = lines.get(a) & lines.get(b);
                    int bc = lines.get(b) & lines.get(c);
                    int ac = lines.get(a) & lines.get(c);
                    triangles += ab != 0 && bc != 0 && ac != 0 && ab != bc ? 1 : 0;
                }
            }
        }
        years(text, seed, n, lines.size(), triangles, added);
    }

    @Sentence(in = "Game", says = "YEARS by a seed: n times (0 to 60)")
    private static void yearsBounds() {
        years(Check.FANO, 5, 0, 7, 28, 0);
        SchemeLister x = Check.told(Check.FANO);
        CHECK.illegal("years(5, .., 0)", n -> x.years(5, n, 0), -1, 61);
        for (int seed = 1; seed <= 20; seed++) {
            likeLists("points 8;", seed, 59);
            likeLists("points 8;", seed, 60);
            likeLists(Check.FULL, seed, 60);
        }
    }

    @Sentence(in = "Game", says = "a DRAW of 3: 0, 1 a DRAW of POINTS three times: if these are unlike")
    private static void yearsUnlike() {
        for (int kind = 0; kind < 2; kind++) {
            int drawn = kind;
            years("", seed(r -> r[0] % 3 == drawn && unlike(r, 1, 7)), 1, 1, 0, 1);
            years("", seed(r -> r[0] % 3 == drawn && r[1] % 7 == r[2] % 7 && r[1] % 7 != r[3] % 7), 1, 0, 0, 0);
            years("", seed(r -> r[0] % 3 == drawn && r[1] % 7 == r[3] % 7 && r[1] % 7 != r[2] % 7), 1, 0, 0, 0);
            years("", seed(r -> r[0] % 3 == drawn && r[2] % 7 == r[3] % 7 && r[1] % 7 != r[3] % 7), 1, 0, 0, 0);
            // Three are drawn even if the first two are one: the next year begins behind them.
            years("", seed(r -> r[0] % 3 == drawn && r[1] % 7 == r[2] % 7 && r[3] % 3 == 2 && r[4] % 3 < 2 && unlike(r, 5, 7)),
                    2, 1, 0, 1);
        }
        // Of one or two points three are never unlike.
        for (int seed = 1; seed <= 5; seed++) {
            years("points 1;", seed, 60, 0, 0, 0);
            years("points 2;", seed, 60, 0, 0, 0);
        }
    }

    @Sentence(in = "Game", says = "and the LINE of them can be ADDED, it is")
    private static void yearsCanBeAdded() {
        int free = seed(r -> r[0] % 3 < 2 && lineOf(r, 1, 8) == 7);
        // There are twelve; there are eleven, and each two of 0, 1, 2 make triangles with 4, 5, 6 then.
        years(CROSSED, free, 1, 12, 0, 0);
        years(CROSSED.substring(0, CROSSED.length() - 9), free, 1, 12, 9, 1);
        int first = seed(r -> r[0] % 3 < 2 && unlike(r, 1, 7) && (lineOf(r, 1, 7) & 3) == 3);
        years("line 0 1;", first, 1, 1, 0, 0);
        years("line 5 6;line 0 1;", first, 1, 2, 0, 0);
        int beside = seed(r -> r[0] % 3 < 2 && unlike(r, 1, 7) && (lineOf(r, 1, 7) & 3) == 1);
        years("line 0 1;", beside, 1, 2, 0, 1);
        // What was added stands in the way of the next one.
        int twice = seed(r -> r[0] % 3 < 2 && r[4] % 3 < 2 && unlike(r, 1, 7) && lineOf(r, 1, 7) == lineOf(r, 5, 7));
        years("", twice, 2, 1, 0, 1);
    }

    @Sentence(in = "Game", says = "2 a LINE by a DRAW of LINES is DROPPED")
    private static void yearsDropped() {
        String text = "points 5;line 0 1;line 1 2;line 2 0;line 3 4;";
        years(text, seed(r -> r[0] % 3 == 2 && r[1] % 4 == 3), 1, 3, 1, 0);
        years(text, seed(r -> r[0] % 3 == 2 && r[1] % 4 == 0), 1, 3, 0, 0);
        years(text, seed(r -> r[0] % 3 == 2 && r[1] % 4 == 2), 1, 3, 0, 0);
        // Those behind it are one less: the last of three is the last of four then.
        years("points 5;line 3 4;line 0 1;line 1 2;line 2 0;", seed(r -> r[0] % 3 == 2 && r[1] % 4 == 0), 1, 3, 1, 0);
        years("points 8;line 6 7;line 0 1;line 1 2;line 2 0;line 4 5;",
                seed(r -> r[0] % 3 == 2 && r[1] % 5 == 0 && r[2] % 3 == 2 && r[3] % 4 == 3), 2, 3, 1, 0);
        years("line 0 1;", seed(r -> r[0] % 3 == 2), 1, 0, 0, 0);
    }

    @Sentence(in = "Game", says = "if there are any (nothing is drawn else)")
    private static void yearsNothingDrawn() {
        // The second year's draw is the very next one; the one behind it would do nothing.
        int seed = seed(r -> r[0] % 3 == 2 && r[1] % 3 < 2 && r[2] % 3 == 2 && unlike(r, 2, 7));
        years("", seed, 1, 0, 0, 0);
        years("", seed, 2, 1, 0, 1);
        // With a line a draw of 1 is drawn.
        int other = seed(r -> r[0] % 3 == 2 && r[1] % 3 == 2 && r[2] % 3 < 2 && unlike(r, 3, 7));
        years("line 0 1;", other, 2, 1, 0, 1);
    }

    @Sentence(in = "Game", says = "LINES then; TRIANGLES then; how many were ADDED.")
    private static void yearsThen() {
        // A line is added that makes a triangle, and one is dropped again.
        int seed = seed(r -> r[0] % 3 < 2 && lineOf(r, 1, 7) == 0b0100110 && r[4] % 3 == 2 && r[5] % 3 == 0);
        years("line 0 1;line 0 2;", seed, 1, 3, 1, 1);
        years("line 0 1;line 0 2;", seed, 2, 2, 0, 1);
    }

    @Sentence(in = "Game", says = "(All as ever behind it.)")
    private static void yearsAsEver() {
        SchemeLister x = Check.told("points 8;line 0 1 2;at 7 1 2;");
        x.put(0);
        x.image();
        String before = Check.state(x);
        for (int seed = 1; seed < 10; seed++) {
            x.years(seed, 60, seed % 3);
        }
        CHECK.same("all as ever", Check.state(x), before);
        CHECK.due("STATUS 1", x.count(19), 0);
        CHECK.due("the same seed, the same years", x.years(7, 60, 0), x.years(7, 60, 0));
        CHECK.due("undo", x.undo(), 0);
        CHECK.due("the image", x.restore(), true);
        CHECK.same("and again", Check.state(x), before);
    }

    @Sentence(in = "Game", says = "A seed becomes itself times 1103515245 and 12345 (an int that wraps)")
    private static void yearsWrap() {
        for (int seed : new int[] {0, 1, -1, Check.LEAST, Check.MOST, 1 << 30, -1103515245, 0x5a5a5a5a, 2, 3}) {
            for (int n : new int[] {1, 2, 5, 13, 60}) {
                likeLists("", seed, n);
                likeLists("points 8;line 0 1 2;line 5 6;", seed, n);
            }
        }
    }

    @Sentence(in = "Game", says = "a DRAW of n is its bits 16 to 30 MOD n then.")
    private static void yearsBits() {
        // The sign's bit plays no part: with it, the draw of 3 would be another one.
        for (int seed = 1; seed < 200; seed++) {
            int next = seed * 1103515245 + 12345;
            int[] raw = draws(seed, 4);
            if (next < 0 && raw[0] % 3 < 2 && (next >>> 16) % 3 == 2) {
                years("", seed, 1, unlike(raw, 1, 7) ? 1 : 0, 0, unlike(raw, 1, 7) ? 1 : 0);
            }
            if (next < 0 && raw[0] % 3 == 2 && (next >>> 16) % 3 < 2) {
                years("", seed, 1, 0, 0, 0);
                years("line 0 1;", seed, 1, 0, 0, 0);
            }
        }
        // Seed 1 draws 16838, 5758, 10113, 17515, 31051 first: 2 of 3; then 1 of 3, and 5, 1, 6 of 7.
        years("", 1, 1, 0, 0, 0);
        years("", 1, 2, 1, 0, 1);
    }

    // Promises 24 to 30.

    @Sentence(in = "Promise 24", says = "LIST: how many (i NONE)")
    private static void listHowMany() {
        SchemeLister x = Check.told("points 1;");
        CHECK.due("whatever j", x.list(7, 3, -1, Check.LEAST), 3);
        CHECK.due("whatever j", x.list(7, 3, -1, Check.MOST), 3);
        CHECK.due("none", x.list(4, 2, -1, 0), 0);
        CHECK.due("one without lines", x.list(5, 0, -1, 0), 1);
    }

    @Sentence(in = "Promise 24", says = "the j-th LINE of the i-th.")
    private static void listLine() {
        SchemeLister x = new SchemeLister();
        CHECK.due("the last of the last", x.list(7, 3, 2, 2), 98);
        CHECK.due("the first of the first", x.list(7, 3, 0, 0), 7);
        CHECK.due("the last of seven", x.list(7, 7, 0, 6), 97);
        CHECK.due("on fewer points", x.list(6, 3, 0, 2), 42);
    }

    @Sentence(in = "Promise 24", says = "IllegalArgumentException: n, m.")
    private static void listIllegal() {
        SchemeLister x = new SchemeLister();
        CHECK.illegal("list(.., 3, -1, 0)", n -> x.list(n, 3, -1, 0), 2, 8, 0, -1, Check.LEAST, Check.MOST);
        CHECK.illegal("list(7, .., -1, 0)", m -> x.list(7, m, -1, 0), -1, 8, Check.LEAST, Check.MOST);
    }

    @Sentence(in = "Promise 24", says = "NoSuchElementException (behind that): there is none.")
    private static void listNone() {
        SchemeLister x = new SchemeLister();
        CHECK.noSuch("list(7, 3, .., 0)", i -> x.list(7, 3, i, 0), 3, -2, Check.LEAST, Check.MOST);
        CHECK.noSuch("list(7, 3, 0, ..)", j -> x.list(7, 3, 0, j), 3, -1, Check.LEAST, Check.MOST);
        CHECK.noSuch("list(6, 3, .., 0)", i -> x.list(6, 3, i, 0), 1, 2);
        CHECK.noSuch("list(4, 2, .., 0)", i -> x.list(4, 2, i, 0), 0);
        CHECK.noSuch("list(7, 0, 0, ..)", j -> x.list(7, 0, 0, j), 0, -1);
        CHECK.illegal("list(8, .., 99, 99)", m -> x.list(8, m, 99, 99), 3, 9);
        CHECK.illegal("list(.., 8, 99, 99)", n -> x.list(n, 8, 99, 99), 3, 9);
    }

    @Sentence(in = "Promise 25", says = "DRAWN on a SQUARE: the place of a POINT")
    private static void squarePlace() {
        square("points 1;", 4, 0);
        square("points 8;", 4, 0, 1, 6, 7, 8, 9, 14, 15);
        SchemeLister x = Check.told("points 4;");
        CHECK.due("on the least", x.square(2, 3), 3);
        CHECK.due("on the next", x.square(3, 3), 4);
        CHECK.due("on the least again", x.square(2, 3), 3);
    }

    @Sentence(in = "Promise 25", says = "NONE: it can't be.")
    private static void squareNone() {
        noSquare("points 5;", 2);
        noSquare("points 7;", 3);
        noSquare("points 3;line 0 1 2;", 2);
        noSquare(Check.FULL, 4);
    }

    @Sentence(in = "Promise 25", says = "NoSuchElementException.")
    private static void squareNoPoint() {
        SchemeLister x = Check.told("points 3;");
        CHECK.noSuch("square(3, ..)", p -> x.square(3, p), 3, -1, Check.LEAST, Check.MOST);
        CHECK.noSuch("square(9, ..)", p -> x.square(9, p), 3, -1, Check.LEAST, Check.MOST);
    }

    @Sentence(in = "Promise 25", says = "IllegalArgumentException (behind that): not 2 to 4.")
    private static void squareIllegal() {
        SchemeLister x = Check.told("points 3;");
        CHECK.illegal("square(.., 0)", g -> x.square(g, 0), 1, 5, 0, -1, Check.LEAST, Check.MOST);
        CHECK.noSuch("square(.., 3)", g -> x.square(g, 3), 1, 5, 0, -1, Check.LEAST, Check.MOST);
        CHECK.due("square(2, 0)", x.square(2, 0), 0);
        CHECK.due("square(4, 0)", x.square(4, 0), 0);
    }

    @Sentence(in = "Promise 26", says = "DRAWN in a PLANE: in how many ways (point NONE)")
    private static void planeHowMany() {
        CHECK.due("one of seven", Check.told("points 1;").plane(2, -1), 7);
        CHECK.due("none", Check.told("points 8;").plane(3, -1), 0);
        CHECK.due("one of thirteen", Check.told("points 1;").plane(3, -1), 13);
        CHECK.due("four in general", Check.told("points 4;").plane(3, -1), 5616);
    }

    @Sentence(in = "Promise 26", says = "the place of a POINT in the first one; NONE: it can't be.")
    private static void planePlace() {
        plane("points 4;", 2, 168, 0, 1, 3, 6);
        plane("points 4;", 3, 5616, 0, 1, 4, 8);
        noPlane("points 5;", 2);
        noPlane(Check.FANO, 3);
        noPlane("points 8;" + Check.FANO, 2);
    }

    @Sentence(in = "Promise 26", says = "NoSuchElementException.")
    private static void planeNoPoint() {
        SchemeLister x = Check.told("points 3;");
        CHECK.noSuch("plane(3, ..)", p -> x.plane(3, p), 3, -2, Check.LEAST, Check.MOST);
        CHECK.noSuch("plane(9, ..)", p -> x.plane(9, p), 3, -2, Check.LEAST, Check.MOST);
    }

    @Sentence(in = "Promise 26", says = "IllegalArgumentException (behind that): not 2 or 3.")
    private static void planeIllegal() {
        SchemeLister x = Check.told("points 3;");
        CHECK.illegal("plane(.., 0)", q -> x.plane(q, 0), 1, 4, 0, -1, Check.LEAST, Check.MOST);
        CHECK.illegal("plane(.., -1)", q -> x.plane(q, -1), 1, 4, 0, -1, Check.LEAST, Check.MOST);
        CHECK.noSuch("plane(.., 3)", q -> x.plane(q, 3), 1, 4, 0, -1, Check.LEAST, Check.MOST);
    }

    @Sentence(in = "Promise 27", says = "0 COVER")
    private static void setCover() {
        sets(0, "points 1;", 0);
        sets(0, "points 8;line 0 1;line 2 3;line 4 5;line 6 7;", 0b01010101);
    }

    @Sentence(in = "Promise 27", says = "1 CAP")
    private static void setCap() {
        sets(1, "", 127);
        sets(1, "points 8;line 0 1;line 2 3;line 4 5;line 6 7;", 0b01010101);
    }

    @Sentence(in = "Promise 27", says = "2 HALVES, how many")
    private static void setHalves() {
        sets(2, "points 8;line 0 1;line 2 3;line 4 5;line 6 7;", 8);
        sets(2, Check.FANO, 0);
    }

    @Sentence(in = "Promise 27", says = "3 the first half (NONE)")
    private static void setFirstHalf() {
        sets(3, "points 8;line 0 1;line 2 3;line 4 5;line 6 7;", 0b01010101);
        sets(3, Check.FANO, -1);
    }

    @Sentence(in = "Promise 27", says = "4 SPREADS, how many")
    private static void setSpreads() {
        sets(4, "points 8;line 0 1;line 2 3;line 4 5;line 6 7;", 1);
        sets(4, Check.FANO, 0);
    }

    @Sentence(in = "Promise 27", says = "5 the least (NONE).")
    private static void setLeastSpread() {
        sets(5, "points 8;line 0 1;line 2 3;line 4 5;line 6 7;", 15);
        sets(5, Check.FANO, -1);
        sets(5, "points 1;", -1);
    }

    @Sentence(in = "Promise 27", says = "NoSuchElementException: another what.")
    private static void setOther() {
        SchemeLister x = Check.told(Check.FULL);
        CHECK.noSuch("set", x::set, 6, -1, Check.LEAST, Check.MOST);
    }

    @Sentence(in = "Promise 28", says = "FAR; NONE: none.")
    private static void farNone() {
        SchemeLister x = Check.told("points 8;line 0 1 2 3;line 4 5 6 7;");
        CHECK.due("none", x.far(3, 4), -1);
        CHECK.due("one", x.far(4, 7), 1);
        CHECK.due("of all", Check.told(PATH).far(0, 7), 7);
    }

    @Sentence(in = "Promise 28", says = "NoSuchElementException.")
    private static void farNoPoint() {
        SchemeLister x = Check.told("points 3;");
        CHECK.noSuch("far(0, ..)", p -> x.far(0, p), 3, -1, Check.LEAST, Check.MOST);
        CHECK.noSuch("far(.., 0)", p -> x.far(p, 0), 3, -1, Check.LEAST, Check.MOST);
        CHECK.noSuch("far of one", p -> x.far(p, p), 3, -1, Check.LEAST, Check.MOST);
    }

    @Sentence(in = "Promise 29", says = "GAME: what he comes to (what 0)")
    private static void gameWhat() {
        CHECK.due("nobody", Check.told("").game(0), 0);
        CHECK.due("wins", Check.told(TRIANGLE).game(0), 1);
    }

    @Sentence(in = "Promise 29", says = "a POINT (1).")
    private static void gameBegin() {
        CHECK.due("any", Check.told("").game(1), 0);
        CHECK.due("the last", Check.told("points 8;line 7 0;line 7 1;").game(1), 7);
    }

    @Sentence(in = "Promise 29", says = "NoSuchElementException: another what.")
    private static void gameOther() {
        SchemeLister x = Check.told(TRIANGLE);
        CHECK.noSuch("game", x::game, 2, -1, Check.LEAST, Check.MOST);
    }

    @Sentence(in = "Promise 30", says = "YEARS: LINES (what 0), TRIANGLES (1), ADDED (2).")
    private static void yearsWhat() {
        years(Check.FANO, 1, 0, 7, 28, 0);
        years("", 1, 2, 1, 0, 1);
    }

    @Sentence(in = "Promise 30", says = "NoSuchElementException: another what.")
    private static void yearsOther() {
        SchemeLister x = new SchemeLister();
        CHECK.noSuch("years(1, 1, ..)", what -> x.years(1, 1, what), 3, -1, Check.LEAST, Check.MOST);
        CHECK.noSuch("years(1, 61, ..)", what -> x.years(1, 61, what), 3, -1, Check.LEAST, Check.MOST);
    }

    @Sentence(in = "Promise 30", says = "IllegalArgumentException (behind that): n.")
    private static void yearsIllegal() {
        SchemeLister x = new SchemeLister();
        CHECK.illegal("years(1, .., 2)", n -> x.years(1, n, 2), 61, -1, Check.LEAST, Check.MOST);
        CHECK.noSuch("years(1, .., 3)", n -> x.years(1, n, 3), 61, -1, Check.LEAST, Check.MOST);
        CHECK.due("years(1, 0, 2)", x.years(1, 0, 2), 0);
        CHECK.due("years(1, 60, 2)", x.years(1, 60, 2) >= 1, true);
    }
}
