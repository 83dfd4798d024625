/** Promises 15 to 23, 31 and 32: the acts, undo, image, restore. */
public final class ActTest {
    private static final Check CHECK = new Check();

    public static void main(String[] args) {
        add();
        drop();
        swap();
        turn();
        grow();
        place();
        undo();
        fortyActs();
        image();
        CHECK.end();
    }

    private static void add() {
        SchemeLister x = Check.told("points 5;line 0 1 2;");
        CHECK.due("add", x.add(0b11000), 1);
        CHECK.due("add a point's only line", x.add(0b01001), 2);
        CHECK.same("lines", Check.lines(x), "7 24 9");
        int[] wrong = {0, 1, 16, 0b11111, 0b100001, 0b00011, 0b11010, 24, -1, Integer.MIN_VALUE, Integer.MAX_VALUE,
            1 << 31 | 3, 1 << 5 | 1 << 4};
        for (int i = 0; i < wrong.length; i++) {
            CHECK.due("add(" + wrong[i] + ")", x.add(wrong[i]), -1);
            CHECK.due("status", x.count(19), i + 1);
        }
        CHECK.due("acts", x.count(16), 2);
        SchemeLister y = Check.told("points 8;line 4 5 6 7;");
        CHECK.due("four points", y.add(15), 1);
        SchemeLister z = Check.told("points 8;line 0 1;line 0 2;line 0 3;line 0 4;line 0 5;line 0 6;line 0 7;line 1 2;"
                + "line 3 4;line 5 6;line 2 3;");
        CHECK.due("the twelfth", z.add(192), 11);
        CHECK.due("the thirteenth", z.add(0b10000010), -1);
        CHECK.due("lines", z.count(1), 12);
    }

    private static void drop() {
        SchemeLister x = Check.told("points 5;line 0 1;line 1 2;line 2 3;");
        CHECK.due("drop", x.drop(1), 6);
        CHECK.same("those behind are one less", Check.lines(x), "3 12");
        CHECK.due("drop what isn't there", x.drop(2), -1);
        CHECK.due("drop(-1)", x.drop(-1), -1);
        CHECK.due("status", x.count(19), 2);
        CHECK.due("drop the last", x.drop(1), 12);
        CHECK.due("drop the first", x.drop(0), 3);
        CHECK.due("none is left", x.drop(0), -1);
        CHECK.due("points stay", x.count(0), 5);
    }

    private static void swap() {
        SchemeLister x = Check.told("points 5;line 0 1 2;line 2 3;at 1 3 4;at 3 -5 6;");
        CHECK.due("swap", x.swap(1, 3), true);
        CHECK.same("lines", Check.lines(x), "13 6");
        CHECK.due("x of 1", x.point(1, 1), -5);
        CHECK.due("y of 1", x.point(1, 2), 6);
        CHECK.due("x of 3", x.point(3, 1), 3);
        CHECK.due("y of 3", x.point(3, 2), 4);
        CHECK.due("swap two of one line", x.swap(0, 2), true);
        CHECK.same("lines", Check.lines(x), "13 3");
        CHECK.due("one", x.swap(2, 2), false);
        CHECK.due("no such", x.swap(0, 5), false);
        CHECK.due("no such", x.swap(-1, 0), false);
        CHECK.due("status", x.count(19), 3);
        CHECK.due("acts", x.count(16), 2);
    }

    private static void turn() {
        SchemeLister x = Check.told("points 6;line 0 1 2;line 0 3 4;line 1 3 5;line 2 4 5;at 3 1 1;");
        CHECK.due("turn", x.turn(), 6);
        CHECK.due("points", x.count(0), 4);
        CHECK.same("lines", Check.lines(x), "3 5 9 6 10 12");
        CHECK.due("at 0", x.point(3, 1), 0);
        CHECK.due("and back", x.turn(), 4);
        CHECK.same("as it was", Check.lines(x), "7 25 42 52");
        CHECK.due("but at 0", x.point(3, 1), 0);
        CHECK.due("undo", x.undo(), 1);
        CHECK.due("undo", x.undo(), 0);
        CHECK.due("at 1 again", x.point(3, 1), 1);
        SchemeLister y = Check.told("line 0 1 2;");
        CHECK.due("one line becomes one point", y.turn(), 0);
        CHECK.due("points", y.count(0), 1);
        CHECK.due("there is no dual now", y.turn(), -1);
        CHECK.due("status", y.count(19), 1);
        SchemeLister z = Check.told("points 6;line 0 1;line 0 2;line 0 3;line 0 4;line 0 5;");
        CHECK.due("five through one point", z.turn(), -1);
        SchemeLister u = Check.told("points 8;line 0 1;line 1 2;line 2 3;line 3 4;line 4 5;line 5 6;line 6 7;line 7 0;"
                + "line 0 2;");
        CHECK.due("nine lines", u.turn(), -1);
        CHECK.due("points stay", u.count(0), 8);
    }

    private static void grow() {
        SchemeLister x = Check.told("line 0 1 2;line 2 6;line 5 6;at 6 2 3;");
        CHECK.due("more", x.grow(true), 8);
        CHECK.due("too many", x.grow(true), -1);
        CHECK.due("the new one is at 0", x.point(7, 1), 0);
        CHECK.due("it can be on a line", x.add(129), 3);
        CHECK.due("less", x.grow(false), 7);
        CHECK.same("without the line", Check.lines(x), "7 68 96");
        CHECK.due("less", x.grow(false), 6);
        CHECK.same("without two lines", Check.lines(x), "7");
        CHECK.due("more", x.grow(true), 7);
        CHECK.due("another one, at 0", x.point(6, 1), 0);
        CHECK.due("on no line", x.point(6, 0), 0);
        for (int n = 6; n >= 1; n--) {
            CHECK.due("less", x.grow(false), n);
        }
        CHECK.due("none", x.grow(false), -1);
        CHECK.due("one is left", x.count(0), 1);
        CHECK.due("status", x.count(19), 2);
    }

    private static void place() {
        SchemeLister x = Check.told("points 3;");
        CHECK.due("place", x.place(2, -9, 9), true);
        CHECK.due("x", x.point(2, 1), -9);
        CHECK.due("y", x.point(2, 2), 9);
        CHECK.due("no such", x.place(3, 0, 0), false);
        CHECK.due("no such", x.place(-1, 0, 0), false);
        CHECK.due("too far", x.place(0, 10, 0), false);
        CHECK.due("too far", x.place(0, -10, 0), false);
        CHECK.due("too far", x.place(0, 0, 10), false);
        CHECK.due("too far", x.place(0, 0, Integer.MIN_VALUE), false);
        CHECK.due("status", x.count(19), 6);
        CHECK.due("place the same", x.place(2, -9, 9), true);
        CHECK.due("is an act", x.count(16), 2);
    }

    private static void undo() {
        SchemeLister x = Check.told("points 4;line 0 1;at 0 1 1;");
        x.add(6);
        x.drop(0);
        x.swap(1, 3);
        x.place(0, 5, 5);
        x.grow(true);
        x.grow(false);
        x.put(2);
        x.add(3);
        x.put(2);
        x.turn();
        x.take(2);
        CHECK.due("acts", x.count(16), 11);
        CHECK.due("take undone", x.undo(), 10);
        CHECK.due("as turned", x.count(0), 2);
        CHECK.due("turn undone", x.undo(), 9);
        CHECK.same("lines", Check.lines(x), "12 3");
        CHECK.due("shelf", x.shelf(2, 3), 2);
        CHECK.due("put undone", x.undo(), 8);
        CHECK.due("shelf as before", x.shelf(2, 3), 1);
        CHECK.due("add undone", x.undo(), 7);
        CHECK.same("lines", Check.lines(x), "12");
        CHECK.due("put undone", x.undo(), 6);
        CHECK.noSuch("shelf is empty", () -> x.shelf(2, 3));
        CHECK.due("grow undone", x.undo(), 5);
        CHECK.due("points", x.count(0), 5);
        CHECK.due("grow undone", x.undo(), 4);
        CHECK.due("points", x.count(0), 4);
        CHECK.due("place undone", x.undo(), 3);
        CHECK.due("x", x.point(0, 1), 1);
        CHECK.due("swap undone", x.undo(), 2);
        CHECK.same("lines", Check.lines(x), "6");
        CHECK.due("drop undone", x.undo(), 1);
        CHECK.same("lines", Check.lines(x), "3 6");
        CHECK.due("add undone", x.undo(), 0);
        CHECK.same("lines", Check.lines(x), "3");
        CHECK.due("nothing is left", x.undo(), -1);
        CHECK.due("that is not refused", x.count(19), 0);
    }

    private static void fortyActs() {
        SchemeLister x = new SchemeLister();
        for (int i = 0; i < 45; i++) {
            x.place(0, i % 19 - 9, i / 19);
            CHECK.due("kept", x.count(16), Math.min(i + 1, 40));
        }
        for (int left = 39; left >= 0; left--) {
            CHECK.due("undo", x.undo(), left);
        }
        CHECK.due("no more", x.undo(), -1);
        CHECK.due("the fifth act stays", x.point(0, 1), -5);
        x.place(0, 1, 1);
        CHECK.due("acts go on", x.count(16), 1);
    }

    private static void image() {
        SchemeLister x = Check.told("points 5;line 0 1 2;");
        CHECK.due("none yet", x.restore(), false);
        x.put(3);
        x.add(24);
        x.drop(9);
        x.image();
        x.add(99);
        x.turn();
        x.put(3);
        x.put(0);
        x.place(0, 4, 4);
        Check.tell(x, "wrong");
        for (int i = 0; i < 50; i++) {
            x.place(0, i % 9, 0);
        }
        CHECK.due("restore", x.restore(), true);
        CHECK.same("lines", Check.lines(x), "7 24");
        CHECK.due("points", x.count(0), 5);
        CHECK.due("x", x.point(0, 1), 0);
        CHECK.due("acts", x.count(16), 2);
        CHECK.due("status 0", x.count(18), 0);
        CHECK.due("status 1", x.count(19), 1);
        CHECK.due("shelf 3", x.shelf(3, 2), 5);
        CHECK.noSuch("shelf 0", () -> x.shelf(0, 2));
        CHECK.due("undo", x.undo(), 1);
        CHECK.same("lines", Check.lines(x), "7");
        CHECK.due("undo the put", x.undo(), 0);
        CHECK.noSuch("shelf 3", () -> x.shelf(3, 2));
        CHECK.due("restore again", x.restore(), true);
        CHECK.same("lines again", Check.lines(x), "7 24");
        CHECK.due("acts again", x.count(16), 2);
        x.drop(0);
        x.image();
        x.undo();
        CHECK.due("another image", x.restore(), true);
        CHECK.same("in place of the first", Check.lines(x), "24");
        CHECK.due("acts of it", x.count(16), 3);
    }
}
