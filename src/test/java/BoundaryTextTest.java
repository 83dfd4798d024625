import java.nio.charset.StandardCharsets;

/** What the document says of texts and their faults, and promises 1 to 4, each sentence by a test of its own. */
@Covers({"Terms 1", "The constants", "Promise 1", "Promise 2", "Promise 3", "Promise 4"})
public final class BoundaryTextTest {
    private static final Check CHECK = new Check();
    private static final int BLANKS = 0x20202020;
    private static final String TWELVE = "points 8;line 0 1;line 0 2;line 0 3;line 0 4;line 0 5;line 0 6;line 0 7;"
            + "line 1 2;line 3 4;line 5 6;line 2 3;line 6 7;";

    public static void main(String[] args) throws Exception {
        Boundaries.run(BoundaryTextTest.class, CHECK);
    }

    private static SchemeLister good(String text) {
        SchemeLister x = new SchemeLister();
        CHECK.due("scheme of '" + text + "'", Check.tell(x, text), 0);
        CHECK.due("fault of '" + text + "'", x.fault(), SchemeLister.NONE);
        CHECK.due("STATUS 0 behind '" + text + "'", x.count(18), 0);
        return x;
    }

    private static void bad(String text, int fault, int place) {
        SchemeLister x = new SchemeLister();
        CHECK.due("scheme of '" + text + "'", Check.tell(x, text), fault);
        CHECK.due("fault of '" + text + "'", x.fault(), place);
        CHECK.due("STATUS 0 behind '" + text + "'", x.count(18), 1);
    }

    private static void lines(String text, String due) {
        CHECK.same("lines of '" + text + "'", Check.lines(good(text)), due);
    }

    private static void at(String text, int point, int x, int y) {
        SchemeLister all = good(text);
        CHECK.due("x by '" + text + "'", all.point(point, 1), x);
        CHECK.due("y by '" + text + "'", all.point(point, 2), y);
    }

    private static void feed(SchemeLister x, String text) {
        byte[] bytes = text.getBytes(StandardCharsets.ISO_8859_1);
        for (int i = 0; i < bytes.length; i += 20) {
            int[] w = Check.words(bytes, i);
            x.feed(w[0], w[1], w[2], w[3], w[4]);
        }
    }

    // Of what it is.

    @Sentence(in = "What it is", says = "An object is used for at most 512 calls after it has been made")
    private static void allOf512Calls() {
        SchemeLister x = new SchemeLister();
        for (int i = 0; i < 509; i++) {
            x.place(i % 7, i % 19 - 9, i % 10);
        }
        CHECK.due("call 510", x.count(16), 40);
        CHECK.due("call 511", x.undo(), 39);
        CHECK.due("call 512", x.point(507 % 7, 1), 507 % 19 - 9);
    }

    // Of a scheme.

    @Sentence(in = "Terms 1", says = "A SCHEME has POINTS 0, 1 .. (1 to 8; 7 without)")
    private static void oneToEightPoints() {
        SchemeLister one = good("points 1;");
        CHECK.due("one point", one.count(0), 1);
        CHECK.due("the only point", one.point(0, 0), 0);
        CHECK.noSuch("a second point", () -> one.point(1, 0));
        SchemeLister eight = good("points 8;");
        CHECK.due("eight points", eight.count(0), 8);
        CHECK.due("the eighth", eight.point(7, 0), 0);
        CHECK.noSuch("a ninth", () -> eight.point(8, 0));
        SchemeLister seven = good("line 0 6;");
        CHECK.due("seven points", seven.count(0), 7);
        CHECK.due("the seventh", seven.point(6, 0), 1);
        CHECK.noSuch("an eighth", () -> seven.point(7, 0));
        bad("points 0;", 2, 7);
        bad("points 9;", 2, 7);
    }

    @Sentence(in = "Terms 1", says = "LINES 0, 1 .. (at most 12)")
    private static void twelveLines() {
        SchemeLister none = good("points 8;");
        CHECK.due("no lines", none.count(1), 0);
        CHECK.noSuch("the first of none", () -> none.line(0));
        SchemeLister x = good(TWELVE);
        CHECK.due("twelve lines", x.count(1), 12);
        CHECK.due("the first", x.line(0), 3);
        CHECK.due("the twelfth", x.line(11), 192);
        CHECK.noSuch("a thirteenth", () -> x.line(12));
        CHECK.refused("a thirteenth added", x, y -> y.add(0b10000010), -1);
        bad(TWELVE + "line 1 7;", 2, TWELVE.length());
    }

    @Sentence(in = "Terms 1", says = "each of 2 to 4 POINTS")
    private static void twoToFourOnALine() {
        bad("line;", 1, 4);
        bad("line 0;", 1, 6);
        lines("line 0 1;", "3");
        lines("line 0 1 2;", "7");
        lines("line 0 1 2 3;", "15");
        bad("line 0 1 2 3 4;", 1, 13);
        SchemeLister x = new SchemeLister();
        CHECK.due("no point", x.add(0), -1);
        CHECK.due("one", x.add(64), -1);
        CHECK.due("five", x.add(0b0011111), -1);
        CHECK.due("all seven", x.add(127), -1);
        CHECK.due("four", x.add(15), 0);
        CHECK.due("two", x.add(0b1100000), 1);
    }

    @Sentence(in = "Terms 1", says = "(its number: POINT p is bit p)")
    private static void numberOfALine() {
        lines("points 8;line 7 0;line 6 7;line 3 2 1 0;", "129 192 15");
        lines("points 8;line 7 6 5 4;", "240");
    }

    @Sentence(in = "Terms 1", says = "two LINES have one POINT at most in common")
    private static void oneInCommon() {
        lines("line 0 1;line 2 3;", "3 12");
        lines("line 0 1 2 3;line 3 4 5 6;", "15 120");
        bad("line 0 1 2 3;line 2 3 4 5;", 5, 25);
        SchemeLister x = good("line 0 1 2 3;");
        CHECK.due("two in common", x.add(0b0001100), -1);
        CHECK.due("one in common", x.add(0b0011000), 1);
        CHECK.due("none in common", x.add(0b1100000), 2);
    }

    @Sentence(in = "Terms 1", says = "Each POINT lies AT X, Y (-9 to 9; 0, 0 first)")
    private static void nineEachWay() {
        SchemeLister x = good("points 8;");
        for (int p = 0; p < 8; p++) {
            CHECK.due("x at first", x.point(p, 1), 0);
            CHECK.due("y at first", x.point(p, 2), 0);
        }
        at("at 6 9 -9;", 6, 9, -9);
        at("at 6 -9 9;", 6, -9, 9);
        at("at 6 -9 9;", 5, 0, 0);
        bad("at 6 10 9;", 2, 5);
        bad("at 6 9 -10;", 2, 8);
    }

    @Sentence(in = "Terms 1", says = "A TEXT of at most 400 bytes tells it")
    private static void fourHundredBytes() {
        String text = " ".repeat(391) + "line 5 6;";
        SchemeLister x = new SchemeLister();
        feed(x, text);
        CHECK.due("the tape", x.count(17), 400);
        CHECK.due("one more row", x.feed(BLANKS, BLANKS, BLANKS, BLANKS, BLANKS), -1);
        CHECK.illegal("401 bytes", () -> x.scheme(401));
        CHECK.due("400 bytes", x.scheme(400), 0);
        CHECK.due("the line at its end", x.line(0), 96);
        bad(" ".repeat(392) + "line 5 6", 1, 400);
        bad(" ".repeat(399) + "x", 1, 399);
    }

    // Of tokens.

    @Sentence(in = "Terms 1", says = "TOKENS: words (a .. z, the longest row)")
    private static void words() {
        bad("linea 0 1;", 1, 0);
        bad("linez 0 1;", 1, 0);
        bad("aline 0 1;", 1, 0);
        bad("lineline 0 1;", 1, 0);
        bad("lin e 0 1;", 1, 0);
        bad("pointsat 1;", 1, 0);
        // The signs beside a and z end the word, and are no tokens.
        bad("line`0 1;", 1, 4);
        bad("line{0 1;", 1, 4);
        bad("lineZ0 1;", 1, 4);
        bad("at\u00e10 1 1;", 1, 2);
        lines("points8;line0 1;at0 1 1;", "3");
    }

    @Sentence(in = "Terms 1", says = "NUMBERS (1 digit)")
    private static void digits() {
        at("at 0 0 9;", 0, 0, 9);
        // The signs beside 0 and 9.
        bad("at 0 / 0;", 1, 5);
        bad("at 0 : 0;", 1, 5);
        bad("at 0 1/ 0;", 1, 6);
        bad("at 0 1: 0;", 1, 6);
        bad("at 0 11 0;", 2, 5);
        at("at 0 1 1;", 0, 1, 1);
    }

    @Sentence(in = "Terms 1", says = "signs ; - and blanks (32, 10) between them, which count for nothing")
    private static void signsAndBlanks() {
        at("at0-1-2;", 0, -1, -2);
        at("\n at \n\n 0   -\n1 - 2\n;\n \n", 0, -1, -2);
        lines("line0 1;line2 3;", "3 12");
        lines(" line 0\n1 ; line\n2 3 ;", "3 12");
        for (int other : new int[] {0, 9, 11, 12, 13, 31, 33, 42, 44, 46, 95, 127, 128, 138, 160, 255}) {
            bad("line 0" + (char) other + "1;", 1, 6);
            bad((char) other + "", 1, 0);
        }
        bad("line 0:1;", 1, 6);
        bad("line 0,1;", 1, 6);
        bad("line 0 1:", 1, 8);
        bad("line 0 1<", 1, 8);
    }

    // Of the grammar.

    @Sentence(in = "Terms 1", says = "In quotes is what stands there")
    private static void asItStands() {
        bad("'line' 0 1;", 1, 0);
        bad("LINE 0 1;", 1, 0);
        bad("Points 3;", 1, 0);
        // Words that are as long, and other ones by a sign.
        bad("mine 0 1;", 1, 0);
        bad("lime 0 1;", 1, 0);
        bad("lind 0 1;", 1, 0);
        bad("joints 3;", 1, 0);
        bad("pointz 3;", 1, 0);
        bad("it 0 1 1;", 1, 0);
        bad("as 0 1 1;", 1, 0);
        bad("points 3;pointt 3;", 1, 9);
        lines("line 0 1;", "3");
    }

    @Sentence(in = "Terms 1", says = "[ ] perhaps")
    private static void perhaps() {
        lines("line 4 5;", "48");
        lines("line 4 5 6;", "112");
        lines("line 4 5 6 3;", "120");
        bad("line [4] 5;", 1, 5);
    }

    @Sentence(in = "Terms 1", says = "* any number of times")
    private static void anyNumberOfTimes() {
        good("");
        good("at 1 1 1;");
        // So many clauses have room in a text.
        at("at1 1 1;".repeat(49) + "at1 9 8;", 1, 9, 8);
        bad("*", 1, 0);
    }

    @Sentence(in = "Terms 1", says = "| one of some")
    private static void oneOfSome() {
        good("points 2;line 0 1;at 1 3 4;");
        good("points 2;at 1 3 4;line 0 1;");
        bad("points 2;|line 0 1;", 1, 9);
    }

    @Sentence(in = "Terms 1", says = "TEXT: CLAUSE*")
    private static void noClause() {
        SchemeLister x = good("");
        CHECK.due("points", x.count(0), 7);
        CHECK.due("lines", x.count(1), 0);
        good(" \n".repeat(200));
        bad(";", 1, 0);
        bad("points 2;;", 1, 9);
        bad("line 0 1;7", 1, 9);
        bad("-", 1, 0);
    }

    @Sentence(in = "Terms 1", says = "CLAUSE: ('points' NUMBER")
    private static void pointsClause() {
        CHECK.due("points", good("points 3;").count(0), 3);
        bad("points;", 1, 6);
        bad("points -3;", 1, 7);
        bad("points 3 3;", 1, 9);
        bad("points points 3;", 1, 7);
        bad("point 3;", 1, 0);
    }

    @Sentence(in = "Terms 1", says = "'line' POINT POINT [POINT [POINT]]")
    private static void lineClause() {
        lines("line 6 5;line 4 3 2;", "96 28");
        bad("line -0 1;", 1, 5);
        bad("line 0 -1;", 1, 7);
        bad("line 0 1 -2;", 1, 9);
        bad("line 0 at;", 1, 7);
        bad("line 0 1 2 3 ;4", 1, 14);
        bad("line 0 1 2 3 4;", 1, 13);
        bad("lines 0 1;", 1, 0);
    }

    @Sentence(in = "Terms 1", says = "'at' POINT SIGNED SIGNED) ';'")
    private static void atClause() {
        at("at 3 4 5;", 3, 4, 5);
        // Told again, it is as told last.
        at("at 3 4 5;at 3 -6 0;", 3, -6, 0);
        bad("at;", 1, 2);
        bad("at 3;", 1, 4);
        bad("at 3 4;", 1, 6);
        bad("at 3 4 5 6;", 1, 9);
        bad("at 3 4 5-;", 1, 8);
        bad("at -3 4 5;", 1, 3);
        bad("at 3 4 5 at 3 4 5;", 1, 9);
    }

    @Sentence(in = "Terms 1", says = "SIGNED: ['-'] NUMBER")
    private static void signed() {
        at("at 0 -9 - 9;", 0, -9, -9);
        at("at 0 -0 9;", 0, 0, 9);
        bad("at 0 --9 9;", 1, 6);
        at("at 0 9- 9;", 0, 9, -9);
        bad("at 0 -;", 1, 6);
        bad("at 0 9 -;", 1, 8);
        bad("at 0 +9 9;", 1, 5);
    }

    // Of faults.

    @Sentence(in = "Terms 1", says = "FAULTS, the first along the text")
    private static void firstFault() {
        bad("line 0 7;line 0 10;x", 3, 7);
        bad("line 0 10;line 0 7;x", 2, 7);
        bad("line 0 0;x;points 9;", 5, 7);
        bad("points 9;points 0;", 2, 7);
        bad("line 0 1;points 9;line 7 7 7 7 7", 4, 9);
        bad("x line 0 0;", 1, 0);
    }

    @Sentence(in = "Terms 1", says = "at a TOKEN's first byte")
    private static void firstByte() {
        bad("   linez 0 1;", 1, 3);
        bad("line 0   123;", 2, 9);
        bad("at 0 -  45 1;", 2, 8);
        bad(" \n points 3; points 3;", 4, 13);
        bad("line 0 1;  line 1 0   ;", 5, 22);
    }

    @Sentence(in = "Terms 1", says = "of one TOKEN the least")
    private static void leastOfOneToken() {
        // No place for it, and too much.
        bad("line 0 1 2 3 44;", 1, 13);
        // No place for it, and no such point, or there already.
        bad("line 0 1 2 3 9;", 1, 13);
        bad("line 0 1 2 3 3;", 1, 13);
        // No place for it, and behind another clause, or the thirteenth.
        bad("line 0 1;at 0 points 3;", 1, 14);
        bad(TWELVE + "at 0 line", 1, TWELVE.length() + 5);
        // Too much, and no such point, or there already.
        bad("line 0 77;", 2, 7);
        bad("line 0 00;", 2, 7);
        bad("at 88 0 0;", 2, 3);
    }

    @Sentence(in = "Terms 1", says = "1 a TOKEN that can't stand there")
    private static void misplaced() {
        bad("3 points;", 1, 0);
        bad("points at;", 1, 7);
        bad("points ;", 1, 7);
        bad("points 3 line 0 1;", 1, 9);
        bad("line 0 1 line 2 3;", 1, 9);
        bad("line ; 0 1;", 1, 5);
        bad("at 0 ; 1 1;", 1, 5);
        bad("at 0 1 at;", 1, 7);
        bad("other 3;", 1, 0);
        bad("line 0 1;;", 1, 9);
    }

    @Sentence(in = "Terms 1", says = "or is none (the text's length where it ends too soon)")
    private static void noToken() {
        bad("line 0 A;", 1, 7);
        bad("line 0\u00001;", 1, 6);
        bad("line 0\u00ff1;", 1, 6);
        bad("line 0 1;.", 1, 9);
        String[] cut = {"points", "points 3", "line", "line 0", "line 0 1", "line 0 1 2", "line 0 1 2 3", "at", "at 0",
            "at 0 1", "at 0 -", "at 0 -1", "at 0 -1 -", "at 0 -1 -1", "line 0 1;at"};
        for (String text : cut) {
            bad(text, 1, text.length());
            bad(text + " \n ", 1, text.length() + 3);
        }
        // The text is what is told of the tape, whatever comes behind it.
        SchemeLister x = new SchemeLister();
        feed(x, "line 0 12;");
        CHECK.due("8 bytes of 'line 0 12;'", x.scheme(8), 1);
        CHECK.due("their length", x.fault(), 8);
    }

    @Sentence(in = "Terms 1", says = "2 one that can, but is too much: a NUMBER of 2 digits or more")
    private static void twoDigits() {
        bad("points 10;", 2, 7);
        bad("points 01;", 2, 7);
        bad("points 08;", 2, 7);
        bad("line 00 1;", 2, 5);
        bad("line 0 01;", 2, 7);
        bad("line 0 1 02;", 2, 9);
        bad("line 0 1 2 03;", 2, 11);
        bad("at 00 1 1;", 2, 3);
        bad("at 0 01 1;", 2, 5);
        bad("at 0 1 -01;", 2, 8);
        bad("at 0 123 1;", 2, 5);
        // Numbers that would be 1 again, if they wrapped.
        bad("line 0 4294967297;", 2, 7);
        bad("line 0 18446744073709551617;", 2, 7);
        bad("points " + "0".repeat(250) + "1;", 2, 7);
    }

    @Sentence(in = "Terms 1", says = "of 'points' not 1 to 8")
    private static void pointsTooMany() {
        bad("points 0;", 2, 7);
        bad("points 9;", 2, 7);
        bad("points 0", 2, 7);
        for (int n = 1; n <= 8; n++) {
            CHECK.due("points", good("points " + n + ";").count(0), n);
        }
    }

    @Sentence(in = "Terms 1", says = "the word of the 13th 'line'")
    private static void thirteenthLine() {
        CHECK.due("twelve", good(TWELVE).count(1), 12);
        CHECK.due("twelve, and a clause", good(TWELVE + "at 0 1 1;").count(1), 12);
        bad(TWELVE + "line 1 7;", 2, TWELVE.length());
        bad(TWELVE + " line", 2, TWELVE.length() + 1);
        bad(TWELVE + "line line;", 2, TWELVE.length());
        bad(TWELVE + "line 0 1;", 2, TWELVE.length());
        bad(TWELVE + "lines 1 7;", 1, TWELVE.length());
    }

    @Sentence(in = "Terms 1", says = "3 a POINT that there isn't")
    private static void noSuchPoint() {
        lines("points 8;line 6 7;", "192");
        bad("points 8;line 6 8;", 3, 16);
        bad("points 8;line 6 9;", 3, 16);
        bad("points 8;at 8 1 1;", 3, 12);
        bad("line 0 7;", 3, 7);
        bad("line 7 7;", 3, 5);
        bad("at 7 1 1;", 3, 3);
        bad("points 1;line 0 1;", 3, 16);
        bad("points 1;at 1 1 1;", 3, 12);
        at("points 1;at 0 1 2;", 0, 1, 2);
    }

    @Sentence(in = "Terms 1", says = "4 'points' behind any other CLAUSE")
    private static void pointsLate() {
        bad("line 0 1;points 7;", 4, 9);
        bad("at 0 0 0;points 7;", 4, 9);
        bad("at 0 0 0;points", 4, 9);
        bad("line 0 1;points 0;", 4, 9);
        CHECK.due("points first", good("points 7;line 0 1;").count(0), 7);
    }

    @Sentence(in = "Terms 1", says = "(a second 'points', too)")
    private static void pointsTwice() {
        bad("points 7;points 7;", 4, 9);
        bad("points 7;points 99;", 4, 9);
        bad("points 7;points;", 4, 9);
    }

    @Sentence(in = "Terms 1", says = "5 a POINT that is in that 'line' already")
    private static void twiceInALine() {
        bad("line 0 0;", 5, 7);
        bad("line 0 1 0;", 5, 9);
        bad("line 0 1 1;", 5, 9);
        bad("line 0 1 2 0;", 5, 11);
        bad("line 0 1 2 2", 5, 11);
        // In another line it may be.
        lines("line 0 1;line 0 2;", "3 5");
    }

    @Sentence(in = "Terms 1", says = "or at the ';' of a 'line' that has two POINTS in common with another one")
    private static void twoInCommon() {
        bad("line 0 1;line 0 1;", 5, 17);
        bad("line 0 1;line 1 0  ;", 5, 19);
        bad("line 0 1 2 3;line 0 1 2 3;", 5, 25);
        bad("line 0 1;line 2 3;line 4 5;line 0 1 6;", 5, 37);
        bad("line 0 1 2;line 2 3;line 4 2 3;", 5, 30);
        bad("line 0 1;line 0 1 2", 1, 19);
        bad("line 0 1;line 0 1 2 3 4;", 1, 22);
        lines("line 0 1 2;line 0 3;line 1 3;line 2 3;", "7 9 10 12");
    }

    @Sentence(in = "The constants", says = "The constants: `NONE = -1`: There is none.")
    private static void none() {
        CHECK.due("NONE", SchemeLister.NONE, -1);
        CHECK.due("what there is none of", new SchemeLister().undo(), SchemeLister.NONE);
    }

    // Promises 1 to 4.

    @Sentence(in = "Promise 1", says = "A SCHEME of an empty TEXT.")
    private static void newObject() {
        SchemeLister x = new SchemeLister();
        SchemeLister y = new SchemeLister();
        CHECK.due("an empty text", y.scheme(0), 0);
        CHECK.same("a new one", Check.state(x), Check.state(y));
        CHECK.same("a new one", Check.state(x), "7 points, lines , at 0,0 0,0 0,0 0,0 0,0 0,0 0,0, shelves"
                + " throws.NoSuchElementException/throws.NoSuchElementException".repeat(4) + ", acts 0, tape 0, fault -1");
        CHECK.due("STATUS 0", x.count(18), 0);
        CHECK.due("STATUS 1", x.count(19), 0);
        CHECK.due("nothing to undo", x.undo(), -1);
        CHECK.due("no image", x.restore(), false);
    }

    @Sentence(in = "Promise 2", says = "Twenty bytes come behind the tape")
    private static void twentyBytes() {
        SchemeLister x = new SchemeLister();
        feed(x, "line 0 1;line 2 3;li");
        CHECK.due("twenty", x.count(17), 20);
        feed(x, "ne 0 3;line 4 5;    ");
        CHECK.due("twenty more", x.count(17), 40);
        CHECK.due("as one text", x.scheme(40), 0);
        CHECK.same("in their order", Check.lines(x), "3 12 9 48");
    }

    @Sentence(in = "Promise 2", says = "of each number the highest first")
    private static void highestFirst() {
        SchemeLister x = new SchemeLister();
        // 'line', ' 0 1', ';at ', '1 -2', ' 3; '.
        x.feed(0x6c696e65, 0x20302031, 0x3b617420, 0x31202d32, 0x20333b20);
        CHECK.due("by bytes", x.scheme(20), 0);
        CHECK.due("the line", x.line(0), 3);
        CHECK.due("x", x.point(1, 1), -2);
        // Numbers below 0 have a highest byte as others.
        SchemeLister y = new SchemeLister();
        y.feed(BLANKS, 0x2020ff20, -1, BLANKS, BLANKS);
        CHECK.due("byte 255", y.scheme(20), 1);
        CHECK.due("its place", y.fault(), 6);
        y.feed(BLANKS, BLANKS, BLANKS, BLANKS, 0x20202080);
        CHECK.due("byte 128 is the last", y.scheme(20), 1);
        CHECK.due("its place", y.fault(), 19);
        y.feed(Check.LEAST, BLANKS, BLANKS, BLANKS, BLANKS);
        CHECK.due("byte 128 is the first", y.scheme(20), 1);
        CHECK.due("its place", y.fault(), 0);
    }

    @Sentence(in = "Promise 2", says = "how many it has")
    private static void howManyBytes() {
        SchemeLister x = new SchemeLister();
        for (int n = 20; n <= 400; n += 20) {
            CHECK.due("feed", x.feed(0, -1, Check.LEAST, Check.MOST, 1), n);
            CHECK.due("the tape", x.count(17), n);
        }
        CHECK.due("feeding is no act", x.count(16), 0);
    }

    @Sentence(in = "Promise 2", says = "NONE, and none come, if it would have more than 400.")
    private static void fullTape() {
        SchemeLister x = new SchemeLister();
        feed(x, "line 5 6;" + " ".repeat(391));
        CHECK.due("beyond 400", x.feed(0, 0, 0, 0, 0), -1);
        CHECK.due("beyond 400 again", x.feed(-1, -1, -1, -1, -1), -1);
        CHECK.due("the tape", x.count(17), 400);
        CHECK.due("STATUS 0", x.count(18), 0);
        CHECK.due("STATUS 1", x.count(19), 0);
        CHECK.due("none came", x.scheme(400), 0);
        CHECK.due("the line", x.line(0), 96);
        CHECK.due("there is room again", x.feed(0, 0, 0, 0, 0), 20);
    }

    @Sentence(in = "Promise 3", says = "The tape's first n bytes (it is empty then) are a SCHEME")
    private static void firstBytes() {
        SchemeLister x = new SchemeLister();
        feed(x, "line 0 1;line 2 3;xx");
        CHECK.due("nine bytes", x.scheme(9), 0);
        CHECK.same("the first clause", Check.lines(x), "3");
        CHECK.due("the tape is empty", x.count(17), 0);
        CHECK.illegal("nothing is left of it", () -> x.scheme(1));
        feed(x, "line 4 5;");
        CHECK.due("no bytes", x.scheme(0), 0);
        CHECK.due("no lines", x.count(1), 0);
        CHECK.due("the tape is empty", x.count(17), 0);
        feed(x, "line 4 5;           ");
        CHECK.due("all bytes", x.scheme(20), 0);
        CHECK.same("the line", Check.lines(x), "48");
        feed(x, "wrong");
        CHECK.due("a fault", x.scheme(5), 1);
        CHECK.due("the tape is empty", x.count(17), 0);
    }

    @Sentence(in = "Promise 3", says = "all anew: 0")
    private static void allAnew() {
        SchemeLister x = good("points 8;line 6 7;line 0 7;at 7 1 2;at 0 3 4;");
        CHECK.due("anew", Check.tell(x, "line 1 2;at 1 5 6;"), 0);
        CHECK.due("points", x.count(0), 7);
        CHECK.same("lines", Check.lines(x), "6");
        CHECK.due("x of 0", x.point(0, 1), 0);
        CHECK.due("x of 1", x.point(1, 1), 5);
        CHECK.due("a point more", x.grow(true), 8);
        CHECK.due("y of 7", x.point(7, 2), 0);
    }

    @Sentence(in = "Promise 3", says = "or the FAULT (all stays, but STATUS)")
    private static void allStays() {
        SchemeLister x = good("points 5;line 0 1 2;at 3 1 2;");
        x.put(1);
        x.image();
        x.add(24);
        String before = Check.state(x);
        CHECK.due("a fault in the last byte", Check.tell(x, "points 3;at 0 5 5;line 0 1;line 0 1;"), 5);
        CHECK.same("all stays", Check.state(x).replaceAll("fault.*", ""), before.replaceAll("fault.*", ""));
        CHECK.due("STATUS 0", x.count(18), 1);
        CHECK.due("another fault", Check.tell(x, "x"), 1);
        CHECK.due("STATUS 0", x.count(18), 2);
        CHECK.due("STATUS 1", x.count(19), 0);
        CHECK.due("acts stay", x.undo(), 1);
        CHECK.due("the image stays", x.restore(), true);
    }

    @Sentence(in = "Promise 3", says = "SHELVES are empty")
    private static void shelvesEmptied() {
        SchemeLister x = new SchemeLister();
        for (int i = 0; i < 4; i++) {
            x.put(i);
        }
        CHECK.due("a text", Check.tell(x, ""), 0);
        CHECK.noSuch("what is on a shelf", i -> x.shelf(i, 2), 0, 1, 2, 3);
        CHECK.due("nothing is there", x.take(0), -1);
        CHECK.due("nothing was there", x.put(3), 0);
    }

    @Sentence(in = "Promise 3", says = "ACTS, the image are gone.")
    private static void actsGone() {
        SchemeLister x = new SchemeLister();
        x.add(3);
        x.image();
        x.add(5);
        CHECK.due("a text", Check.tell(x, ""), 0);
        CHECK.due("acts", x.count(16), 0);
        CHECK.due("nothing to undo", x.undo(), -1);
        CHECK.due("no image", x.restore(), false);
        CHECK.due("no lines", x.count(1), 0);
    }

    @Sentence(in = "Promise 3", says = "IllegalArgumentException: the tape has not so many")
    private static void notSoMany() {
        SchemeLister x = good("points 5;line 0 1;");
        x.put(0);
        CHECK.thrown("1 of 0", x, y -> y.scheme(1), "IllegalArgumentException");
        feed(x, "line 0 9;");
        CHECK.thrown("21 of 20", x, y -> y.scheme(21), "IllegalArgumentException");
        CHECK.thrown("the most", x, y -> y.scheme(Check.MOST), "IllegalArgumentException");
        CHECK.due("20 of 20", x.scheme(20), 3);
    }

    @Sentence(in = "Promise 3", says = "n below 0 (nothing changes).")
    private static void belowNone() {
        SchemeLister x = good("points 5;line 0 1;");
        x.put(0);
        feed(x, "line 0 9;");
        CHECK.thrown("-1", x, y -> y.scheme(-1), "IllegalArgumentException");
        CHECK.thrown("the least", x, y -> y.scheme(Check.LEAST), "IllegalArgumentException");
        CHECK.due("0", x.scheme(0), 0);
    }

    @Sentence(in = "Promise 4", says = "The place of the latest scheme()'s FAULT")
    private static void latestFault() {
        SchemeLister x = new SchemeLister();
        Check.tell(x, "line 0 9;");
        CHECK.due("the first", x.fault(), 7);
        Check.tell(x, "x");
        CHECK.due("the latest", x.fault(), 0);
        Check.tell(x, "line 0 1");
        CHECK.due("the end", x.fault(), 8);
        CHECK.illegal("no scheme", () -> x.scheme(1));
        CHECK.due("it is still the latest", x.fault(), 8);
        x.add(3);
        x.undo();
        CHECK.due("acts leave it", x.fault(), 8);
        Check.tell(x, " ".repeat(399) + "x");
        CHECK.due("the last byte", x.fault(), 399);
    }

    @Sentence(in = "Promise 4", says = "NONE without.")
    private static void withoutFault() {
        SchemeLister x = new SchemeLister();
        CHECK.due("of a new one", x.fault(), -1);
        Check.tell(x, "x");
        CHECK.due("a fault", x.fault(), 0);
        Check.tell(x, "line 0 1;");
        CHECK.due("behind a good text", x.fault(), -1);
    }
}
