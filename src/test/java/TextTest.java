/** Promises 1 to 4: a new object, feed, scheme, fault. */
public final class TextTest {
    private static final Check CHECK = new Check();

    public static void main(String[] args) {
        newObject();
        tape();
        goodTexts();
        misplaced();
        tooMuch();
        noPoint();
        pointsLate();
        common();
        cutOff();
        whatStays();
        whatGoes();
        CHECK.end();
    }

    private static void newObject() {
        SchemeLister x = new SchemeLister();
        CHECK.due("points of a new one", x.count(0), 7);
        CHECK.due("lines of a new one", x.count(1), 0);
        CHECK.due("fault of a new one", x.fault(), -1);
        CHECK.due("acts of a new one", x.count(16), 0);
        CHECK.due("tape of a new one", x.count(17), 0);
        CHECK.due("status 0 of a new one", x.count(18), 0);
        CHECK.due("status 1 of a new one", x.count(19), 0);
        CHECK.due("undo of a new one", x.undo(), -1);
        CHECK.due("restore of a new one", x.restore(), false);
        CHECK.noSuch("shelf of a new one", () -> x.shelf(0, 2));
        for (int p = 0; p < 7; p++) {
            CHECK.due("x", x.point(p, 1), 0);
            CHECK.due("y", x.point(p, 2), 0);
        }
    }

    private static void tape() {
        SchemeLister x = new SchemeLister();
        for (int i = 1; i <= 20; i++) {
            CHECK.due("feed " + i, x.feed(0x20202020, 0x20202020, 0x20202020, 0x20202020, 0x20202020), 20 * i);
            CHECK.due("tape " + i, x.count(17), 20 * i);
        }
        CHECK.due("feed 21", x.feed(1, 2, 3, 4, 5), -1);
        CHECK.due("tape stays", x.count(17), 400);
        CHECK.due("status stays", x.count(18) + x.count(19), 0);
        CHECK.illegal("401 bytes", () -> x.scheme(401));
        CHECK.due("nothing changes", x.count(17), 400);
        CHECK.due("400 blanks", x.scheme(400), 0);
        CHECK.due("the tape is empty", x.count(17), 0);
        CHECK.illegal("1 byte of none", () -> x.scheme(1));
        CHECK.illegal("-1 bytes", () -> x.scheme(-1));
        CHECK.illegal("least", () -> x.scheme(Integer.MIN_VALUE));
        CHECK.due("no bytes", x.scheme(0), 0);
        CHECK.due("feed goes on", x.feed(1, 2, 3, 4, 5), 20);
        CHECK.due("a part of the tape", x.scheme(0), 0);
        CHECK.due("all of it is gone", x.count(17), 0);
        // The highest byte of each number comes first: 'line', ' 0 1', ';at ', '1 -2', ' 3; '.
        x.feed(0x6c696e65, 0x20302031, 0x3b617420, 0x31202d32, 0x20333b20);
        CHECK.due("by bytes", x.scheme(20), 0);
        CHECK.due("line by bytes", x.line(0), 3);
        CHECK.due("x by bytes", x.point(1, 1), -2);
        CHECK.due("y by bytes", x.point(1, 2), 3);
    }

    private static void good(String text, int points, String lines) {
        SchemeLister x = new SchemeLister();
        CHECK.due(text, Check.tell(x, text), 0);
        CHECK.due("fault of " + text, x.fault(), -1);
        CHECK.due("points of " + text, x.count(0), points);
        CHECK.same("lines of " + text, Check.lines(x), lines);
        CHECK.due("status of " + text, x.count(18), 0);
    }

    private static void goodTexts() {
        good("", 7, "");
        good("  \n\n ", 7, "");
        good("points 1;", 1, "");
        good("points8;", 8, "");
        good("points\n8\n;\n", 8, "");
        good("line 6 0;", 7, "65");
        good("line6 0 ;line 1\n2 3 4;", 7, "65 30");
        good("points 8;line 4 5 6 7;line 3 2 1 0;", 8, "240 15");
        good("points 3;line 0 1;line 2 1;line 0 2;", 3, "3 6 5");
        good("at 0 9 9;at 0 - 9 -0;", 7, "");
        good("points 8;line 0 1;line 0 2;line 0 3;line 0 4;line 0 5;line 0 6;line 0 7;line 1 2;line 3 4;line 5 6;"
                + "line 2 3;line 6 7;", 8, "3 5 9 17 33 65 129 6 24 96 12 192");
        SchemeLister x = Check.told("at 6 -9 9;at 0 3 4;at 0 - 5 - 6;");
        CHECK.due("x of 6", x.point(6, 1), -9);
        CHECK.due("y of 6", x.point(6, 2), 9);
        CHECK.due("the latest x", x.point(0, 1), -5);
        CHECK.due("the latest y", x.point(0, 2), -6);
    }

    private static void bad(String text, int fault, int place) {
        SchemeLister x = new SchemeLister();
        CHECK.due(text, Check.tell(x, text), fault);
        CHECK.due("place in " + text, x.fault(), place);
        CHECK.due("status of " + text, x.count(18), 1);
        CHECK.due("tape behind " + text, x.count(17), 0);
    }

    private static void misplaced() {
        bad("x", 1, 0);
        bad(" lines 0 1;", 1, 1);
        bad("Line 0 1;", 1, 0);
        bad("li ne 0 1;", 1, 0);
        bad(";", 1, 0);
        bad("3;", 1, 0);
        bad("-", 1, 0);
        bad("\t", 1, 0);
        bad("line 0\t1;", 1, 6);
        bad("line 0 1\u00e9;", 1, 8);
        bad("line 0 1;\u0000", 1, 9);
        bad("line 0 1,", 1, 8);
        bad("line", 1, 4);
        bad("line  \n", 1, 7);
        bad("line 0;", 1, 6);
        bad("line ;", 1, 5);
        bad("line 0 1", 1, 8);
        bad("line 0 1   ", 1, 11);
        bad("line 0 1 2 3 4;", 1, 13);
        bad("line 0 1 2 3 99;", 1, 13);
        bad("line 0 1 -2;", 1, 9);
        bad("line 0 1 line 2 3;", 1, 9);
        bad("line 0 1 points 7;", 1, 9);
        bad("points;", 1, 6);
        bad("points -1;", 1, 7);
        bad("points 4 5;", 1, 9);
        bad("points 4", 1, 8);
        bad("at 0 1;", 1, 6);
        bad("at 0 1 2 3;", 1, 9);
        bad("at 0 --1 2;", 1, 6);
        bad("at -0 1 2;", 1, 3);
        bad("at 0 -", 1, 6);
        bad("at 0 - ;", 1, 7);
        bad("at;", 1, 2);
        bad("line 0 1;;", 1, 9);
        bad("line 0 1;2", 1, 9);
    }

    private static void tooMuch() {
        bad("points 0;", 2, 7);
        bad("points 9;", 2, 7);
        bad("points 10;", 2, 7);
        bad("points 07;", 2, 7);
        bad("line 00 1;", 2, 5);
        bad("line 0 12;", 2, 7);
        bad("line01;", 2, 4);
        bad("at 10 0 0;", 2, 3);
        bad("at 0 10 0;", 2, 5);
        bad("at 0 -10 0;", 2, 6);
        bad("at 0 1 00;", 2, 7);
        bad("points 2;line 0 1 77;", 2, 18);
        String twelve = "points 8;line 0 1;line 0 2;line 0 3;line 0 4;line 0 5;line 0 6;line 0 7;line 1 2;line 3 4;"
                + "line 5 6;line 2 3;line 6 7;";
        bad(twelve + "line 1 7;", 2, twelve.length());
        bad(twelve + " line", 2, twelve.length() + 1);
        bad(twelve + "points 8;", 4, twelve.length());
        bad(twelve + "at 0 0 10;", 2, twelve.length() + 7);
    }

    private static void noPoint() {
        bad("line 0 7;", 3, 7);
        bad("line 9 8;", 3, 5);
        bad("points 2;line 0 1;line 1 2;", 3, 25);
        bad("points 1;line 0 1;", 3, 16);
        bad("at 7 0 0;", 3, 3);
        bad("points 1;at 1 0 0;", 3, 12);
    }

    private static void pointsLate() {
        bad("line 0 1;points 7;", 4, 9);
        bad("at 0 1 1;points", 4, 9);
        bad("points 4; points 4;", 4, 10);
        bad("points 4;points 99;", 4, 9);
    }

    private static void common() {
        bad("line 0 0;", 5, 7);
        bad("line 0 1 2 1;", 5, 11);
        bad("line 0 1 2;line 2 1 3;", 5, 21);
        bad("line 0 1;line 0 1;", 5, 17);
        bad("line 0 1 2 3;line 4 3 5 2 ;", 5, 26);
        bad("line 0 1;line 0 2;line 2 1 0;", 5, 28);
        bad("line 0 1;line 0 1 2 3 4;", 1, 22);
    }

    /** What is on the tape behind the first n bytes plays no part. */
    private static void cut(String text, int n, int fault, int place) {
        SchemeLister x = new SchemeLister();
        byte[] bytes = text.getBytes(java.nio.charset.StandardCharsets.ISO_8859_1);
        for (int i = 0; i < bytes.length; i += 20) {
            int[] w = Check.words(bytes, i);
            x.feed(w[0], w[1], w[2], w[3], w[4]);
        }
        CHECK.due(n + " bytes of " + text, x.scheme(n), fault);
        CHECK.due("place in " + n + " bytes of " + text, x.fault(), place);
        CHECK.due("tape behind " + n + " bytes", x.count(17), 0);
    }

    private static void cutOff() {
        cut("line 0 12;", 8, 1, 8);
        cut("line 0 1;", 8, 1, 8);
        cut("linex 0 1;", 4, 1, 4);
        cut("line 0 1;;", 9, 0, -1);
        cut("line 0 1;linex", 13, 1, 13);
        cut("at 0 1 -23;", 9, 1, 9);
        cut("points 45", 8, 1, 8);
        cut("line 0 1;  x", 11, 0, -1);
        cut("nothing", 0, 0, -1);
        String blanks = " ".repeat(380);
        cut(blanks + "line 1 2;line 0 3;  ", 400, 0, -1);
        cut(blanks + "line 1 2;line 0 3 45", 400, 2, 398);
        cut(blanks + "line 1 2;line 0 3 4 ", 400, 1, 400);
        cut(blanks + "line 1 2; line 0 3 4", 400, 1, 400);
        cut(blanks + "line 1 2;line 0 3;at", 400, 1, 400);
        cut(blanks + "line 1 2;line 0 3;  ", 396, 1, 396);
    }

    private static void whatStays() {
        SchemeLister x = Check.told("points 5;line 0 1 2;at 3 1 2;");
        x.put(1);
        x.image();
        x.add(24);
        CHECK.due("a bad text", Check.tell(x, "points 3;line 0 1;line 0 1;"), 5);
        CHECK.due("place", x.fault(), 26);
        CHECK.due("points stay", x.count(0), 5);
        CHECK.same("lines stay", Check.lines(x), "7 24");
        CHECK.due("x stays", x.point(3, 1), 1);
        CHECK.due("acts stay", x.count(16), 2);
        CHECK.due("shelf stays", x.shelf(1, 2), 5);
        CHECK.due("status", x.count(18), 1);
        CHECK.illegal("more than the tape", () -> x.scheme(1));
        CHECK.due("the fault stays", x.fault(), 26);
        CHECK.due("status stays", x.count(18), 1);
        CHECK.due("image stays", x.restore(), true);
        CHECK.due("acts of the image", x.count(16), 1);
        CHECK.due("status of the image", x.count(18), 0);
        CHECK.due("the fault is no part of it", x.fault(), 26);
    }

    private static void whatGoes() {
        SchemeLister x = Check.told("points 5;line 0 1 2;at 3 1 2;");
        x.put(1);
        x.add(24);
        x.add(24);
        x.image();
        Check.tell(x, "nothing");
        CHECK.due("a good text", Check.tell(x, "line 5 6;"), 0);
        CHECK.due("no fault", x.fault(), -1);
        CHECK.due("points anew", x.count(0), 7);
        CHECK.same("lines anew", Check.lines(x), "96");
        CHECK.due("x anew", x.point(3, 1), 0);
        CHECK.due("acts are gone", x.count(16), 0);
        CHECK.due("nothing to undo", x.undo(), -1);
        CHECK.noSuch("shelves are empty", () -> x.shelf(1, 2));
        CHECK.due("the image is gone", x.restore(), false);
        CHECK.due("refused texts are still counted", x.count(18), 1);
        CHECK.due("refused acts are still counted", x.count(19), 1);
    }
}
