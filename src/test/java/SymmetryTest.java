/** Promises 10 to 12: symmetry, normal, dual. */
public final class SymmetryTest {
    private static final Check CHECK = new Check();

    public static void main(String[] args) {
        symmetries();
        allOfThem();
        normals();
        duals();
        wrong();
        CHECK.end();
    }

    private static void image(SchemeLister x, int i, int... due) {
        for (int p = 0; p < due.length; p++) {
            int point = p;
            CHECK.due("symmetry(" + i + ", " + p + ")", x.symmetry(i, point), due[p]);
        }
    }

    private static void symmetries() {
        SchemeLister x = Check.told("points 4;line 0 1;line 1 2;line 2 3;");
        CHECK.due("of a path", x.count(9), 2);
        image(x, 0, 0, 1, 2, 3);
        image(x, 1, 3, 2, 1, 0);
        SchemeLister y = Check.told("points 3;");
        CHECK.due("of three points", y.count(9), 6);
        image(y, 0, 0, 1, 2);
        image(y, 1, 0, 2, 1);
        image(y, 2, 1, 0, 2);
        image(y, 3, 1, 2, 0);
        image(y, 4, 2, 0, 1);
        image(y, 5, 2, 1, 0);
        SchemeLister z = Check.told("points 8;");
        image(z, 40319, 7, 6, 5, 4, 3, 2, 1, 0);
        image(z, 5040, 1, 0, 2, 3, 4, 5, 6, 7);
        SchemeLister c = Check.told("points 4;line 0 1;line 1 2;line 2 3;line 3 0;");
        image(c, 1, 0, 3, 2, 1);
        image(c, 2, 1, 0, 3, 2);
        image(c, 7, 3, 2, 1, 0);
    }

    /** Each row behind the one before it, and a symmetry indeed. */
    private static void allOfThem() {
        SchemeLister x = Check.told(Check.FANO);
        String before = "";
        for (int i = 0; i < 168; i++) {
            StringBuilder row = new StringBuilder();
            boolean kept = true;
            for (int p = 0; p < 7; p++) {
                row.append(x.symmetry(i, p));
            }
            for (int l = 0; l < 7 && i % 4 == 0; l++) {
                int image = 0;
                for (int p = 0; p < 7; p++) {
                    if ((x.line(l) >> p & 1) != 0) {
                        image |= 1 << row.charAt(p) - '0';
                    }
                }
                boolean found = false;
                for (int k = 0; k < 7; k++) {
                    found |= x.line(k) == image;
                }
                kept &= found;
            }
            CHECK.due("row " + i + " makes lines of lines", kept, true);
            CHECK.due("row " + i + " is behind the one before", row.toString().compareTo(before) > 0, true);
            before = row.toString();
        }
    }

    private static void normalIs(String text, int... due) {
        SchemeLister x = Check.told(text);
        for (int i = 0; i < due.length; i++) {
            int line = i;
            CHECK.due("normal(" + i + ") of " + text, x.normal(line), due[i]);
        }
        CHECK.noSuch("normal behind the last of " + text, () -> x.normal(due.length));
    }

    private static void normals() {
        normalIs("");
        normalIs("line 4 5 6;", 7);
        // A pair goes first: 3, 28 is less than 7, 24.
        normalIs("line 2 3;line 4 5 6;", 3, 28);
        normalIs("points 8;line 4 5 6 7;line 0 1 2 3;", 15, 240);
        normalIs("line 4 5 6;line 1 2 4;", 7, 25);
        normalIs("points 4;line 0 1;line 1 2;line 2 3;line 3 0;", 3, 5, 10, 12);
        normalIs("points 8;line 5 0;line 5 1;line 5 2;line 5 3;line 5 4;line 5 6;line 5 7;", 3, 5, 9, 17, 33, 65, 129);
        normalIs("points 6;line 0 5 1;line 0 3 4;line 1 3 2;line 2 4 5;", 7, 25, 42, 52);
        normalIs(Check.FANO, 7, 25, 42, 52, 76, 82, 97);
    }

    private static void dualIs(String text, int many, int... due) {
        SchemeLister x = Check.told(text);
        CHECK.due("dual(-1) of " + text, x.dual(-1), many);
        for (int i = 0; i < due.length; i++) {
            int line = i;
            CHECK.due("dual(" + i + ") of " + text, x.dual(line), due[i]);
        }
        CHECK.noSuch("dual behind the last of " + text, () -> x.dual(due.length));
        CHECK.noSuch("dual(-2) of " + text, () -> x.dual(-2));
    }

    private static void duals() {
        dualIs("", -1);
        dualIs("line 0 1 2;", 0);
        dualIs("line 4 5 6;line 1 2 4;", 1, 3);
        dualIs("points 6;line 0 1 2;line 0 3 4;line 1 3 5;line 2 4 5;", 6, 3, 5, 9, 6, 10, 12);
        dualIs("points 5;line 0 1;line 0 2;line 0 3;line 0 4;", 1, 15);
        dualIs("points 6;line 0 1;line 0 2;line 0 3;line 0 4;line 0 5;", -1);
        dualIs("points 8;line 0 1;line 1 2;line 2 3;line 3 4;line 4 5;line 5 6;line 6 7;line 7 0;", 8,
                129, 3, 6, 12, 24, 48, 96, 192);
        dualIs("points 8;line 0 1;line 1 2;line 2 3;line 3 4;line 4 5;line 5 6;line 6 7;line 7 0;line 0 2;", -1);
    }

    private static void wrong() {
        SchemeLister x = Check.told("points 4;line 0 1;line 1 2;line 2 3;");
        for (int w : new int[] {-1, -2, 4, 7, 8, Integer.MIN_VALUE, Integer.MAX_VALUE}) {
            CHECK.noSuch("symmetry(" + w + ", 0)", () -> x.symmetry(w, 0));
            CHECK.noSuch("symmetry(0, " + w + ")", () -> x.symmetry(0, w));
            CHECK.noSuch("normal(" + w + ")", () -> x.normal(w));
            if (w != -1) {
                CHECK.noSuch("dual(" + w + ")", () -> x.dual(w));
            }
        }
        CHECK.noSuch("symmetry(2, 0)", () -> x.symmetry(2, 0));
    }
}
