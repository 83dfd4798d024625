/** Promise 24: list. */
public final class ListTest {
    private static final Check CHECK = new Check();

    public static void main(String[] args) {
        SchemeLister x = new SchemeLister();
        many(x, 7, 1, 1, 2, 3, 3, 2, 1, 1);
        many(x, 6, 1, 1, 2, 1, 1, 0, 0, 0);
        many(x, 5, 1, 1, 1, 0, 0, 0, 0, 0);
        many(x, 4, 1, 1, 0, 0, 0, 0, 0, 0);
        many(x, 3, 1, 1, 0, 0, 0, 0, 0, 0);
        row(x, 3, 1, 0, 7);
        row(x, 7, 2, 0, 7, 25);
        row(x, 7, 2, 1, 7, 56);
        row(x, 6, 2, 1, 7, 56);
        row(x, 6, 3, 0, 7, 25, 42);
        row(x, 7, 3, 0, 7, 25, 42);
        row(x, 7, 3, 1, 7, 25, 97);
        row(x, 7, 3, 2, 7, 25, 98);
        row(x, 6, 4, 0, 7, 25, 42, 52);
        row(x, 7, 7, 0, 7, 25, 42, 52, 76, 82, 97);
        likePlain();
        wrong(x);
        // The scheme itself plays no part.
        SchemeLister y = Check.told("points 2;line 0 1;");
        row(y, 7, 7, 0, 7, 25, 42, 52, 76, 82, 97);
        CHECK.due("no act", y.count(16), 0);
        CHECK.end();
    }

    private static void many(SchemeLister x, int n, int... due) {
        for (int m = 0; m < due.length; m++) {
            CHECK.due("list(" + n + ", " + m + ", -1, 0)", x.list(n, m, -1, 0), due[m]);
            CHECK.due("list(" + n + ", " + m + ", -1, -5)", x.list(n, m, -1, -5), due[m]);
        }
    }

    private static void row(SchemeLister x, int n, int m, int i, int... due) {
        for (int j = 0; j < due.length; j++) {
            CHECK.due("list(" + n + ", " + m + ", " + i + ", " + j + ")", x.list(n, m, i, j), due[j]);
        }
    }

    private static void likePlain() {
        SchemeLister x = new SchemeLister();
        PlainLister y = new PlainLister();
        for (int n = 3; n <= 6; n++) {
            for (int m = 0; m <= 4; m++) {
                int many = y.list(n, m, -1, 0);
                CHECK.due("how many of " + n + " " + m, x.list(n, m, -1, 0), many);
                for (int i = 0; i < many; i++) {
                    for (int j = 0; j < m; j++) {
                        CHECK.due("line " + j + " of " + i, x.list(n, m, i, j), y.list(n, m, i, j));
                    }
                }
            }
        }
    }

    private static void wrong(SchemeLister x) {
        for (int w : new int[] {2, 8, -1, 0, Integer.MIN_VALUE, Integer.MAX_VALUE}) {
            CHECK.illegal("n " + w, () -> x.list(w, 0, -1, 0));
            CHECK.illegal("n " + w + " before i", () -> x.list(w, 0, 5, 0));
        }
        for (int w : new int[] {8, -1, Integer.MIN_VALUE, Integer.MAX_VALUE}) {
            CHECK.illegal("m " + w, () -> x.list(7, w, -1, 0));
            CHECK.illegal("m " + w + " before j", () -> x.list(7, w, 0, -1));
        }
        CHECK.noSuch("no such i", () -> x.list(7, 2, 2, 0));
        CHECK.noSuch("no such i", () -> x.list(7, 2, -2, 0));
        CHECK.noSuch("no such i", () -> x.list(7, 2, Integer.MAX_VALUE, 0));
        CHECK.noSuch("no such j", () -> x.list(7, 2, 0, 2));
        CHECK.noSuch("no such j", () -> x.list(7, 2, 0, -1));
        CHECK.noSuch("no lines", () -> x.list(7, 0, 0, 0));
        CHECK.noSuch("none of these", () -> x.list(3, 2, 0, 0));
    }
}
