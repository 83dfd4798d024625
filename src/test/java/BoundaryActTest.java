/** What the document says of acts, STATUS and the image, and promises 15 to 23, 31, 32, each sentence by a test of its own. */
@Covers({"Acts", "Status", "Promise 15", "Promise 16", "Promise 17", "Promise 18", "Promise 19", "Promise 20", "Promise 21",
    "Promise 22", "Promise 23", "Promise 31", "Promise 32"})
public final class BoundaryActTest {
    private static final Check CHECK = new Check();
    private static final String RING = "points 8;line 0 1;line 1 2;line 2 3;line 3 4;line 4 5;line 5 6;line 6 7;line 7 0;";
    private static final String ELEVEN = "points 8;line 0 1;line 0 2;line 0 3;line 0 4;line 0 5;line 0 6;line 0 7;line 1 2;"
            + "line 3 4;line 5 6;line 2 3;";

    public static void main(String[] args) throws Exception {
        Boundaries.run(BoundaryActTest.class, CHECK);
    }

    private static void lines(SchemeLister x, String due) {
        CHECK.same("lines", Check.lines(x), due);
    }

    /** A scheme of an object of its own, one act that is refused there. */
    private static void refused(String text, String call, Check.Ask act, int due) {
        SchemeLister x = Check.told(text);
        x.put(0);
        x.place(0, 1, 2);
        CHECK.refused(call + " behind '" + text + "'", x, act, due);
        CHECK.due("the act before it is the last one", x.undo(), 1);
        CHECK.due("and undone", x.point(0, 1), 0);
    }

    /** An act of each kind but one that is put: what was before comes back. */
    private static void undone(String text, String call, Check.Ask act) {
        SchemeLister x = Check.told(text);
        x.put(3);
        String before = Check.state(x);
        act.of(x);
        CHECK.due(call + " is an act", x.count(16), 2);
        CHECK.due(call + " is undone", x.undo(), 1);
        CHECK.same("all as before " + call, Check.state(x), before);
    }

    // Of acts.

    @Sentence(in = "Acts", says = "ACTS (at most 40 are kept, the latest ones)")
    private static void fortyActs() {
        SchemeLister x = new SchemeLister();
        CHECK.due("none yet", x.count(16), 0);
        for (int i = 1; i <= 42; i++) {
            x.place(0, i % 10, i / 10);
            CHECK.due("kept", x.count(16), Math.min(i, 40));
        }
        for (int left = 39; left >= 0; left--) {
            CHECK.due("left", x.undo(), left);
        }
        CHECK.due("no more", x.undo(), -1);
        CHECK.due("the second act stays: x", x.point(0, 1), 2);
        CHECK.due("the second act stays: y", x.point(0, 2), 0);
        x.place(0, 9, 9);
        CHECK.due("kept again", x.count(16), 1);
        CHECK.due("undone", x.undo(), 0);
        CHECK.due("the second act once more", x.point(0, 1), 2);
    }

    @Sentence(in = "Acts", says = "a LINE is ADDED (the last one then)")
    private static void added() {
        SchemeLister x = Check.told("line 5 6;");
        x.add(3);
        lines(x, "96 3");
        x.add(5);
        lines(x, "96 3 5");
        undone("line 5 6;", "add", y -> y.add(3));
        undone(ELEVEN, "add", y -> y.add(192));
    }

    @Sentence(in = "Acts", says = "DROPPED (those behind it are one less)")
    private static void dropped() {
        SchemeLister x = Check.told("line 0 1;line 1 2;line 2 3;line 3 4;");
        x.drop(1);
        lines(x, "3 12 24");
        x.drop(2);
        lines(x, "3 12");
        x.drop(0);
        lines(x, "12");
        CHECK.due("lines through 2", x.point(2, 0), 1);
        undone("line 0 1;line 1 2;line 2 3;", "drop", y -> y.drop(0));
        undone("line 0 1;", "drop", y -> y.drop(0));
    }

    @Sentence(in = "Acts", says = "two POINTS SWAPPED (LINES have the other one, AT, too)")
    private static void swapped() {
        SchemeLister x = Check.told("points 8;line 0 1 7;line 1 2;line 7 3;line 4 5;at 1 -9 9;at 7 9 -8;");
        x.swap(1, 7);
        // Of one line both, of others one, of the last none.
        lines(x, "131 132 10 48");
        CHECK.due("x of 1", x.point(1, 1), 9);
        CHECK.due("y of 1", x.point(1, 2), -8);
        CHECK.due("x of 7", x.point(7, 1), -9);
        CHECK.due("y of 7", x.point(7, 2), 9);
        x.swap(7, 1);
        lines(x, "131 6 136 48");
        CHECK.due("x of 1 again", x.point(1, 1), -9);
        undone("points 8;line 0 1;at 0 1 2;", "swap", y -> y.swap(0, 7) ? 1 : 0);
    }

    @Sentence(in = "Acts", says = "it is TURNED into its DUAL (all AT 0, 0)")
    private static void turned() {
        SchemeLister x = Check.told("points 8;line 0 1;line 1 2;at 0 1 2;at 1 3 4;at 7 5 6;");
        CHECK.due("lines", x.turn(), 1);
        CHECK.due("points", x.count(0), 2);
        lines(x, "3");
        for (int p = 0; p < 2; p++) {
            CHECK.due("x", x.point(p, 1), 0);
            CHECK.due("y", x.point(p, 2), 0);
        }
        for (int n = 3; n <= 8; n++) {
            CHECK.due("a point more", x.grow(true), n);
            CHECK.due("its x", x.point(n - 1, 1), 0);
        }
        undone("points 8;line 0 1;line 1 2;at 0 1 2;at 7 5 6;", "turn", SchemeLister::turn);
        undone(RING + "at 7 5 6;", "turn", SchemeLister::turn);
    }

    @Sentence(in = "Acts", says = "a POINT more (the last one; AT 0, 0)")
    private static void pointMore() {
        SchemeLister x = Check.told("line 0 6;at 6 4 5;");
        CHECK.due("points", x.grow(true), 8);
        CHECK.due("lines on it", x.point(7, 0), 0);
        CHECK.due("its x", x.point(7, 1), 0);
        CHECK.due("its y", x.point(7, 2), 0);
        CHECK.due("the one before it", x.point(6, 1), 4);
        lines(x, "65");
        // Where the last one was before is of no account.
        x.place(7, 3, 3);
        x.grow(false);
        x.grow(true);
        CHECK.due("its x", x.point(7, 1), 0);
        CHECK.due("its y", x.point(7, 2), 0);
        undone("line 0 6;at 6 4 5;", "grow", y -> y.grow(true));
    }

    @Sentence(in = "Acts", says = "the last POINT away with all LINES through it")
    private static void pointAway() {
        SchemeLister x = Check.told("points 4;line 3 0;line 0 1;line 3 1 2;line 0 2;at 3 1 1;at 2 4 5;");
        CHECK.due("points", x.grow(false), 3);
        lines(x, "3 5");
        CHECK.due("the others' places", x.point(2, 1), 4);
        CHECK.due("lines on 0", x.point(0, 0), 3);
        CHECK.due("points", x.grow(false), 2);
        lines(x, "3");
        CHECK.due("points", x.grow(false), 1);
        lines(x, "");
        undone("points 4;line 3 0;line 0 1;line 3 1 2;line 0 2;at 3 1 1;", "grow", y -> y.grow(false));
    }

    @Sentence(in = "Acts", says = "AT is told")
    private static void atTold() {
        SchemeLister x = Check.told("points 3;at 1 2 3;");
        CHECK.due("place", x.place(1, -9, 9), true);
        CHECK.due("x", x.point(1, 1), -9);
        CHECK.due("y", x.point(1, 2), 9);
        CHECK.due("another one's x", x.point(2, 1), 0);
        CHECK.due("the same again", x.place(1, -9, 9), true);
        CHECK.due("is an act, too", x.count(16), 2);
        undone("points 3;at 1 2 3;", "place", y -> y.place(1, -9, 9) ? 1 : 0);
    }

    @Sentence(in = "Acts", says = "on a SHELF 0 to 3 the SCHEME is PUT (AT, too)")
    private static void putAway() {
        SchemeLister x = Check.told("points 3;line 0 1;at 2 7 -7;");
        CHECK.due("shelf 0", x.put(0), 0);
        CHECK.due("shelf 3", x.put(3), 0);
        CHECK.due("shelf 4", x.put(4), -1);
        CHECK.due("shelf -1", x.put(-1), -1);
        x.place(2, 1, 1);
        x.drop(0);
        x.take(3);
        CHECK.due("x", x.point(2, 1), 7);
        CHECK.due("y", x.point(2, 2), -7);
        lines(x, "3");
    }

    @Sentence(in = "Acts", says = "it is TAKEN from there.")
    private static void taken() {
        SchemeLister x = Check.told(RING + "at 7 5 6;");
        x.put(1);
        while (x.count(0) > 1) {
            x.grow(false);
        }
        x.put(2);
        CHECK.due("take the ring", x.take(1), 8);
        CHECK.due("lines", x.count(1), 8);
        CHECK.due("x", x.point(7, 1), 5);
        CHECK.due("take the point", x.take(2), 1);
        CHECK.due("a point more", x.grow(true), 2);
        CHECK.due("the shelf stays", x.shelf(2, 2), 1);
        undone(RING + "at 7 5 6;", "take", y -> y.take(3));
    }

    @Sentence(in = "Acts", says = "They are UNDONE, the last one first (SHELVES, too).")
    private static void lastFirst() {
        SchemeLister x = Check.told("points 4;line 0 1;");
        x.put(0);
        x.add(12);
        x.put(0);
        x.grow(false);
        x.take(0);
        CHECK.due("take undone", x.undo(), 4);
        lines(x, "3");
        CHECK.due("points", x.count(0), 3);
        CHECK.due("grow undone", x.undo(), 3);
        lines(x, "3 12");
        CHECK.due("what is there", x.shelf(0, 3), 2);
        CHECK.due("put undone", x.undo(), 2);
        CHECK.due("what was there", x.shelf(0, 3), 1);
        lines(x, "3 12");
        CHECK.due("add undone", x.undo(), 1);
        lines(x, "3");
        CHECK.due("put undone", x.undo(), 0);
        CHECK.noSuch("shelf 0", what -> x.shelf(0, what), 2, 3);
        CHECK.due("all undone", x.undo(), -1);
    }

    @Sentence(in = "Acts", says = "They are UNDONE")
    private static void answersUndone() {
        answersUndone("points 3;line 0 1;line 1 2;line 2 0;", "grow", x -> x.grow(true));
        answersUndone("points 3;line 0 1;line 1 2;line 2 0;", "drop", x -> x.drop(2));
        answersUndone("points 4;line 0 1;line 2 3;line 0 2;line 1 3;", "swap", x -> x.swap(0, 3) ? 1 : 0);
        answersUndone("points 4;line 0 1;line 2 3;line 0 2;line 1 3;", "add", x -> x.add(9));
        answersUndone(Check.FANO, "turn", SchemeLister::turn);
        answersUndone(Check.TREE, "place", x -> x.place(3, 4, 4) ? 1 : 0);
        answersUndone(Check.FULL, "shrink", x -> x.grow(false));
        answersUndone(RING, "put", x -> x.put(2));
        answersUndone(RING, "take", x -> x.take(0));
    }

    /** What is answered behind an act doesn't hang on what was asked before it, and is as before behind undo. */
    private static void answersUndone(String text, String call, Check.Ask act) {
        SchemeLister asked = withShelves(text);
        SchemeLister fresh = withShelves(text);
        String before = Check.answers(asked);
        act.of(asked);
        act.of(fresh);
        CHECK.same("answers behind " + call, Check.answers(asked), Check.answers(fresh));
        asked.undo();
        CHECK.same("answers with " + call + " undone", Check.answers(asked), before);
    }

    private static SchemeLister withShelves(String text) {
        SchemeLister x = Check.told(text);
        x.put(1);
        x.drop(0);
        x.put(0);
        x.take(1);
        return x;
    }

    // Of STATUS and the image.

    @Sentence(in = "Status", says = "STATUS: how many calls were refused: 0 TEXTS with a FAULT")
    private static void refusedTexts() {
        SchemeLister x = new SchemeLister();
        CHECK.due("none", x.count(18), 0);
        Check.tell(x, "x");
        Check.tell(x, "points 9;");
        CHECK.due("two", x.count(18), 2);
        CHECK.illegal("no text", () -> x.scheme(1));
        CHECK.illegal("no text", () -> x.scheme(-1));
        CHECK.due("still two", x.count(18), 2);
        x.add(0);
        Check.tell(x, "");
        CHECK.due("a good text is none", x.count(18), 2);
        for (int i = 0; i < 21; i++) {
            x.feed(0, 0, 0, 0, 0);
        }
        CHECK.due("a full tape is none", x.count(18), 2);
        CHECK.due("STATUS 1", x.count(19), 1);
    }

    @Sentence(in = "Status", says = "1 ACTS.")
    private static void refusedActs() {
        SchemeLister x = Check.told("points 1;");
        x.add(0);
        x.drop(0);
        x.swap(0, 0);
        x.turn();
        x.grow(false);
        x.place(0, 10, 0);
        x.put(4);
        x.take(0);
        CHECK.due("each kind once", x.count(19), 8);
        CHECK.due("none to undo", x.undo(), -1);
        CHECK.due("no image", x.restore(), false);
        CHECK.noSuch("questions", x::line, 0, 1);
        CHECK.due("none of these is an act", x.count(19), 8);
        CHECK.due("STATUS 0", x.count(18), 0);
        x.add(0);
        CHECK.due("once more", x.count(19), 9);
        x.grow(true);
        CHECK.due("not refused", x.count(19), 9);
        x.undo();
        CHECK.due("undone ones stay counted", x.count(19), 9);
    }

    @Sentence(in = "Status", says = "AN IMAGE keeps all that ACTS change")
    private static void imageOfAll() {
        SchemeLister x = Check.told("points 5;line 0 1 2;at 4 -9 9;");
        x.put(0);
        x.put(3);
        x.image();
        String before = Check.state(x);
        x.add(24);
        x.drop(0);
        x.swap(0, 4);
        x.grow(true);
        x.place(4, 1, 1);
        x.put(0);
        x.put(1);
        x.turn();
        CHECK.due("restore", x.restore(), true);
        CHECK.same("all as it was", Check.state(x), before);
        CHECK.due("take what was put", x.take(0), 5);
        lines(x, "7");
        CHECK.due("its x", x.point(4, 1), -9);
    }

    @Sentence(in = "Status", says = "ACTS that are kept")
    private static void imageOfActs() {
        SchemeLister x = new SchemeLister();
        for (int i = 1; i <= 42; i++) {
            x.place(0, i % 10, i / 10);
        }
        x.image();
        for (int i = 0; i < 45; i++) {
            x.place(0, -1, -1);
        }
        CHECK.due("restore", x.restore(), true);
        CHECK.due("acts", x.count(16), 40);
        for (int left = 39; left >= 0; left--) {
            CHECK.due("left", x.undo(), left);
        }
        CHECK.due("x", x.point(0, 1), 2);
        CHECK.due("no more", x.undo(), -1);
        CHECK.due("restore again", x.restore(), true);
        CHECK.due("acts again", x.count(16), 40);
        CHECK.due("undone again", x.undo(), 39);
        CHECK.due("x of the 41st", x.point(0, 1), 1);
        CHECK.due("y of the 41st", x.point(0, 2), 4);
        SchemeLister y = new SchemeLister();
        y.image();
        y.add(3);
        y.restore();
        CHECK.due("no acts", y.undo(), -1);
    }

    @Sentence(in = "Status", says = "ACTS that are kept, STATUS.")
    private static void imageOfStatus() {
        SchemeLister x = new SchemeLister();
        Check.tell(x, "x");
        x.add(0);
        x.add(0);
        x.image();
        Check.tell(x, "x");
        x.add(0);
        CHECK.due("STATUS 0", x.count(18), 2);
        CHECK.due("STATUS 1", x.count(19), 3);
        CHECK.due("restore", x.restore(), true);
        CHECK.due("STATUS 0 as it was", x.count(18), 1);
        CHECK.due("STATUS 1 as it was", x.count(19), 2);
    }

    // Promises 15 to 23.

    @Sentence(in = "Promise 15", says = "A LINE is ADDED: which it is.")
    private static void addWhich() {
        SchemeLister x = Check.told("points 8;");
        CHECK.due("the first", x.add(129), 0);
        CHECK.due("the second", x.add(0b11000000), 1);
        SchemeLister y = Check.told(ELEVEN);
        CHECK.due("the twelfth", y.add(192), 11);
        CHECK.due("its number", y.line(11), 192);
        CHECK.due("none is refused", x.count(19) + y.count(19), 0);
    }

    @Sentence(in = "Promise 15", says = "NONE (STATUS 1): not of 2 to 4 POINTS that there are")
    private static void addOther() {
        // Of no point, one, five, all.
        for (int line : new int[] {0, 1, 64, 31, 127}) {
            refused("", "add(" + line + ")", x -> x.add(line), -1);
        }
        // Of a point that there isn't, below 0, with bits far up.
        for (int line : new int[] {1 | 1 << 7, 3 | 1 << 8, 1 | 1 << 31, -1, Check.LEAST, Check.MOST, 1 << 30 | 1, 3 | 1 << 16}) {
            refused("", "add(" + line + ")", x -> x.add(line), -1);
        }
        refused("points 1;", "add(3)", x -> x.add(3), -1);
        refused("points 8;", "add(257)", x -> x.add(257), -1);
        CHECK.due("of the last two", Check.told("points 8;").add(192), 0);
        CHECK.due("of four", Check.told("points 8;").add(240), 0);
    }

    @Sentence(in = "Promise 15", says = "two in common with another one")
    private static void addCommon() {
        for (int line : new int[] {7, 3, 11, 0b1000110, 0b1100101}) {
            refused("line 5 6;line 0 1 2;line 3 4;", "add(" + line + ")", x -> x.add(line), -1);
        }
        refused("line 5 6;line 0 1 2;line 3 4;", "add(112)", x -> x.add(112), -1);
        CHECK.due("one in common with each", Check.told("line 5 6;line 0 1 2;line 3 4;").add(0b0101001), 3);
    }

    @Sentence(in = "Promise 15", says = "there are 12.")
    private static void addThirteenth() {
        refused(ELEVEN + "line 6 7;", "add", x -> x.add(0b10000010), -1);
        SchemeLister x = Check.told(ELEVEN + "line 6 7;");
        x.drop(0);
        CHECK.due("there is room again", x.add(3), 11);
        CHECK.due("and no more", x.add(0b10000010), -1);
    }

    @Sentence(in = "Promise 16", says = "A LINE is DROPPED: its number.")
    private static void dropNumber() {
        SchemeLister x = Check.told(ELEVEN + "line 6 7;");
        CHECK.due("the last", x.drop(11), 192);
        CHECK.due("the first", x.drop(0), 3);
        CHECK.due("the first now", x.drop(0), 5);
        CHECK.due("the last now", x.drop(8), 12);
        CHECK.due("left", x.count(1), 8);
        CHECK.due("points stay", x.count(0), 8);
    }

    @Sentence(in = "Promise 16", says = "NONE (STATUS 1): there is none.")
    private static void dropNone() {
        for (int line : new int[] {2, -1, Check.LEAST, Check.MOST}) {
            refused("line 0 1;line 1 2;", "drop(" + line + ")", x -> x.drop(line), -1);
        }
        refused("", "drop(0)", x -> x.drop(0), -1);
        refused(ELEVEN + "line 6 7;", "drop(12)", x -> x.drop(12), -1);
    }

    @Sentence(in = "Promise 17", says = "Two POINTS are SWAPPED: true.")
    private static void swapTrue() {
        SchemeLister x = Check.told("points 8;line 0 1;");
        CHECK.due("the first and the last", x.swap(0, 7), true);
        lines(x, "130");
        CHECK.due("two on no line", x.swap(3, 4), true);
        CHECK.due("acts", x.count(16), 2);
    }

    @Sentence(in = "Promise 17", says = "False (STATUS 1): no such POINTS")
    private static void swapNone() {
        for (int p : new int[] {7, -1, Check.LEAST, Check.MOST}) {
            refused("line 0 1;", "swap(0, " + p + ")", x -> x.swap(0, p) ? 1 : 0, 0);
            refused("line 0 1;", "swap(" + p + ", 0)", x -> x.swap(p, 0) ? 1 : 0, 0);
            refused("line 0 1;", "swap(" + p + ", " + p + ")", x -> x.swap(p, p) ? 1 : 0, 0);
        }
        refused("points 8;", "swap(7, 8)", x -> x.swap(7, 8) ? 1 : 0, 0);
        refused("points 1;", "swap(0, 1)", x -> x.swap(0, 1) ? 1 : 0, 0);
    }

    @Sentence(in = "Promise 17", says = "they are one.")
    private static void swapOne() {
        refused("line 0 1;", "swap(0, 0)", x -> x.swap(0, 0) ? 1 : 0, 0);
        refused("line 0 1;", "swap(6, 6)", x -> x.swap(6, 6) ? 1 : 0, 0);
    }

    @Sentence(in = "Promise 18", says = "It is TURNED: how many LINES it has then.")
    private static void turnLines() {
        CHECK.due("none", Check.told("line 0 1 2 3;").turn(), 0);
        CHECK.due("eight", Check.told(RING).turn(), 8);
        SchemeLister x = Check.told(Check.FANO);
        CHECK.due("seven", x.turn(), 7);
        CHECK.due("and back", x.turn(), 7);
        lines(x, "11 22 44 88 49 98 69");
    }

    @Sentence(in = "Promise 18", says = "NONE (STATUS 1): there is no DUAL.")
    private static void turnNone() {
        refused("", "turn", SchemeLister::turn, -1);
        refused(RING + "line 0 2;", "turn", SchemeLister::turn, -1);
        refused("points 6;line 0 1;line 0 2;line 0 3;line 0 4;line 0 5;", "turn", SchemeLister::turn, -1);
    }

    @Sentence(in = "Promise 19", says = "A POINT more (true), the last one away (false): POINTS.")
    private static void growPoints() {
        SchemeLister x = new SchemeLister();
        CHECK.due("more", x.grow(true), 8);
        for (int n = 7; n >= 1; n--) {
            CHECK.due("less", x.grow(false), n);
        }
        for (int n = 2; n <= 8; n++) {
            CHECK.due("more", x.grow(true), n);
        }
        CHECK.due("none is refused", x.count(19), 0);
    }

    @Sentence(in = "Promise 19", says = "NONE (STATUS 1): there would be more than 8, or none.")
    private static void growNone() {
        refused("points 8;line 0 7;", "grow(true)", x -> x.grow(true), -1);
        refused("points 1;", "grow(false)", x -> x.grow(false), -1);
        refused(Check.FULL, "grow(true)", x -> x.grow(true), -1);
    }

    @Sentence(in = "Promise 20", says = "AT is told: true.")
    private static void placeTrue() {
        SchemeLister x = Check.told("points 8;");
        CHECK.due("the last point", x.place(7, 9, -9), true);
        CHECK.due("x", x.point(7, 1), 9);
        CHECK.due("y", x.point(7, 2), -9);
        CHECK.due("the first point", x.place(0, -9, 9), true);
        CHECK.due("x", x.point(0, 1), -9);
        CHECK.due("y", x.point(0, 2), 9);
        CHECK.due("where another one is", x.place(1, -9, 9), true);
    }

    @Sentence(in = "Promise 20", says = "False (STATUS 1): no such POINT")
    private static void placeNone() {
        for (int p : new int[] {7, -1, Check.LEAST, Check.MOST}) {
            refused("", "place(" + p + ", 0, 0)", x -> x.place(p, 0, 0) ? 1 : 0, 0);
        }
        refused("points 8;", "place(8, 0, 0)", x -> x.place(8, 0, 0) ? 1 : 0, 0);
        refused("points 1;", "place(1, 0, 0)", x -> x.place(1, 0, 0) ? 1 : 0, 0);
    }

    @Sentence(in = "Promise 20", says = "not -9 to 9.")
    private static void placeFar() {
        for (int far : new int[] {10, -10, Check.LEAST, Check.MOST}) {
            refused("", "place(0, " + far + ", 0)", x -> x.place(0, far, 0) ? 1 : 0, 0);
            refused("", "place(0, 0, " + far + ")", x -> x.place(0, 0, far) ? 1 : 0, 0);
        }
    }

    @Sentence(in = "Promise 21", says = "It is PUT on a SHELF: whether one was there (1).")
    private static void putWhether() {
        SchemeLister x = new SchemeLister();
        for (int i = 0; i < 4; i++) {
            CHECK.due("none was there", x.put(i), 0);
            CHECK.due("one was there", x.put(i), 1);
        }
        x.undo();
        CHECK.due("one was there", x.put(3), 1);
        x.undo();
        x.undo();
        CHECK.due("none was there", x.put(3), 0);
    }

    @Sentence(in = "Promise 21", says = "NONE (STATUS 1): no such SHELF.")
    private static void putNone() {
        for (int i : new int[] {4, -1, Check.LEAST, Check.MOST}) {
            refused("", "put(" + i + ")", x -> x.put(i), -1);
        }
    }

    @Sentence(in = "Promise 22", says = "It is TAKEN from a SHELF (it stays there, too): POINTS.")
    private static void takePoints() {
        SchemeLister x = Check.told("points 1;");
        x.put(0);
        x.grow(true);
        x.add(3);
        x.put(3);
        CHECK.due("one point", x.take(0), 1);
        CHECK.due("no lines", x.count(1), 0);
        CHECK.due("once more", x.take(0), 1);
        CHECK.due("two points", x.take(3), 2);
        x.drop(0);
        CHECK.due("what stays there is as it was", x.shelf(3, 3), 1);
        CHECK.due("take it again", x.take(3), 2);
        lines(x, "3");
    }

    @Sentence(in = "Promise 22", says = "NONE (STATUS 1): no such SHELF")
    private static void takeNone() {
        for (int i : new int[] {4, -1, Check.LEAST, Check.MOST}) {
            refused("", "take(" + i + ")", x -> x.take(i), -1);
        }
    }

    @Sentence(in = "Promise 22", says = "nothing is there.")
    private static void takeNothing() {
        for (int i = 1; i < 4; i++) {
            int shelf = i;
            refused("", "take(" + i + ")", x -> x.take(shelf), -1);
        }
        SchemeLister x = new SchemeLister();
        CHECK.refused("take(0)", x, y -> y.take(0), -1);
        x.put(0);
        x.undo();
        CHECK.refused("take(0) behind undo", x, y -> y.take(0), -1);
    }

    @Sentence(in = "Promise 23", says = "The last ACT is UNDONE: how many are left.")
    private static void undoLeft() {
        SchemeLister x = new SchemeLister();
        x.add(3);
        x.add(5);
        CHECK.due("one is left", x.undo(), 1);
        lines(x, "3");
        CHECK.due("none is left", x.undo(), 0);
        lines(x, "");
        x.add(0);
        CHECK.due("a refused one is none", x.undo(), -1);
    }

    @Sentence(in = "Promise 23", says = "NONE: there is none.")
    private static void undoNone() {
        SchemeLister x = new SchemeLister();
        String before = Check.state(x);
        CHECK.due("of a new one", x.undo(), -1);
        CHECK.due("again", x.undo(), -1);
        CHECK.same("nothing changes", Check.state(x), before);
        CHECK.due("it isn't refused", x.count(19), 0);
        x.add(3);
        x.undo();
        CHECK.due("undone already", x.undo(), -1);
        CHECK.due("an act again", x.add(3), 0);
        CHECK.due("undone", x.undo(), 0);
    }

    // Promises 31 and 32.

    @Sentence(in = "Promise 31", says = "AN IMAGE is kept, in place of another one.")
    private static void imageInPlace() {
        SchemeLister x = new SchemeLister();
        x.image();
        x.add(3);
        x.image();
        x.add(5);
        CHECK.due("restore", x.restore(), true);
        lines(x, "3");
        CHECK.due("undo goes behind it", x.undo(), 0);
        lines(x, "");
        CHECK.due("restore", x.restore(), true);
        lines(x, "3");
        CHECK.due("it is no act", x.count(16), 1);
    }

    @Sentence(in = "Promise 32", says = "It is as the IMAGE again: true.")
    private static void restoreTrue() {
        SchemeLister x = Check.told("points 8;line 0 7;at 7 1 2;");
        x.put(2);
        x.add(0);
        x.image();
        String before = Check.state(x);
        CHECK.due("at once", x.restore(), true);
        CHECK.same("nothing changes", Check.state(x), before);
        x.turn();
        x.put(2);
        Check.tell(x, "x");
        CHECK.due("restore", x.restore(), true);
        CHECK.same("as it was", Check.state(x).replaceAll("fault.*", ""), before.replaceAll("fault.*", ""));
        CHECK.due("STATUS 0", x.count(18), 0);
        CHECK.due("STATUS 1", x.count(19), 1);
        CHECK.due("the image stays", x.restore(), true);
    }

    @Sentence(in = "Promise 32", says = "False: there is none.")
    private static void restoreFalse() {
        SchemeLister x = new SchemeLister();
        x.add(3);
        String before = Check.state(x);
        CHECK.due("none yet", x.restore(), false);
        CHECK.same("nothing changes", Check.state(x), before);
        CHECK.due("it isn't refused", x.count(19), 0);
        x.image();
        Check.tell(x, "");
        CHECK.due("none behind a new text", x.restore(), false);
        x.image();
        CHECK.due("one again", x.restore(), true);
    }
}
