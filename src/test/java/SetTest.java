/** Promises 27, 29 and 30: set, game, years. */
public final class SetTest {
    private static final Check CHECK = new Check();

    public static void main(String[] args) {
        sets();
        games();
        years();
        wrong();
        CHECK.end();
    }

    private static void sets(String text, int... due) {
        SchemeLister x = Check.told(text);
        for (int what = 0; what < due.length; what++) {
            CHECK.due("set(" + what + ") of " + text, x.set(what), due[what]);
        }
    }

    private static void sets() {
        // Without lines nothing has to be met, and any two parts do, one of them may have no points.
        sets("points 1;", 0, 1, 1, 1, 0, -1);
        sets("points 3;", 0, 7, 4, 1, 0, -1);
        sets("points 2;line 0 1;", 1, 1, 1, 1, 1, 1);
        sets("points 4;line 2 3;line 0 1;line 0 3;line 1 2;", 5, 5, 1, 5, 2, 3);
        sets("points 3;line 0 1;line 1 2;line 2 0;", 3, 1, 0, -1, 0, -1);
        // The complement of a least cover is a greatest cap, but not always the least of these.
        sets("points 4;line 0 1;line 0 2;line 0 3;", 1, 14, 1, 1, 0, -1);
        sets("points 6;line 0 1 2;line 3 4 5;", 9, 27, 18, 9, 1, 3);
        sets(Check.FANO, 11, 29, 0, -1, 0, -1);
        sets("points 8;line 0 1 2 3;line 4 5 6 7;line 0 4;line 1 5;line 2 6;line 3 7;", 30, 30, 7, 45, 2, 3);
    }

    private static void game(String text, int worth, int point) {
        SchemeLister x = Check.told(text);
        CHECK.due("game(0) of " + text, x.game(0), worth);
        CHECK.due("game(1) of " + text, x.game(1), point);
    }

    private static void games() {
        game("points 1;", 0, 0);
        game("", 0, 0);
        game("line 0 1;", 0, 0);
        // Two threats at once, from the point in the middle alone.
        game("points 3;line 0 1;line 1 2;", 1, 1);
        game("points 6;line 3 5;line 5 4;", 1, 5);
        game("line 0 1 2;", 0, 0);
        game(Check.FANO, 1, 0);
        // Elsewhere he would leave 5 to the other one, who wins by it then.
        game("points 7;line 4 5;line 5 6;line 0 1 2 3;", 1, 5);
        game("points 8;line 0 1 2 3;line 4 5 6 7;", 0, 0);
    }

    private static void year(SchemeLister x, int seed, int n, int lines, int triangles, int added) {
        CHECK.due("years(" + seed + ", " + n + ", 0)", x.years(seed, n, 0), lines);
        CHECK.due("years(" + seed + ", " + n + ", 1)", x.years(seed, n, 1), triangles);
        CHECK.due("years(" + seed + ", " + n + ", 2)", x.years(seed, n, 2), added);
    }

    /** The seed 1 draws 16838, 5758, 10113, 17515, 31051, 5627, 23010, 7419, 16212, 4086 (before MOD). */
    private static void years() {
        SchemeLister x = new SchemeLister();
        year(x, 1, 0, 0, 0, 0);
        // 16838 MOD 3 is 2, but there is no line, and nothing is drawn for it.
        year(x, 1, 1, 0, 0, 0);
        // 5758 MOD 3 is 1: 10113, 17515, 31051 MOD 7 are 5, 1, 6.
        year(x, 1, 2, 1, 0, 1);
        // 5627 MOD 3 is 2: the one line is dropped by 23010 MOD 1.
        year(x, 1, 3, 0, 0, 1);
        CHECK.due("all as ever", x.count(1) + x.count(16), 0);
        SchemeLister y = Check.told("points 2;line 0 1;");
        // Two points are never three unlike ones; 16838 MOD 3 drops the line.
        year(y, 1, 1, 0, 0, 0);
        year(y, 1, 60, 0, 0, 0);
        CHECK.due("the line is still there", y.line(0), 3);
        SchemeLister z = Check.told(Check.FANO);
        year(z, 5, 0, 7, 28, 0);
    }

    private static void wrong() {
        SchemeLister x = Check.told("points 3;line 0 1;");
        for (int w : new int[] {-1, 6, Integer.MIN_VALUE, Integer.MAX_VALUE}) {
            CHECK.noSuch("set(" + w + ")", () -> x.set(w));
            CHECK.noSuch("game(" + w + ")", () -> x.game(w));
            CHECK.noSuch("years(1, 1, " + w + ")", () -> x.years(1, 1, w));
            CHECK.noSuch("years(1, 99, " + w + ")", () -> x.years(1, 99, w));
        }
        CHECK.noSuch("game(2)", () -> x.game(2));
        CHECK.noSuch("years(1, 1, 3)", () -> x.years(1, 1, 3));
        for (int w : new int[] {-1, 61, Integer.MIN_VALUE, Integer.MAX_VALUE}) {
            CHECK.illegal("years(1, " + w + ", 0)", () -> x.years(1, w, 0));
        }
        CHECK.due("years(1, 60, 2)", x.years(1, 60, 2) >= 0, true);
    }
}
