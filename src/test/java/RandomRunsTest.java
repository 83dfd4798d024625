import java.nio.charset.StandardCharsets;
import java.util.ArrayList;
import java.util.List;
import java.util.Random;

/** Random runs of calls, right and wrong ones, against PlainLister, which tries everything. */
public final class RandomRunsTest {
    private static final int RUNS = 120;
    private static final int CALLS = 500;
    private static final int[] EDGES = {-1, -2, 7, 8, 9, 12, 13, 40, 60, 61, 255, 256,
        Integer.MIN_VALUE, Integer.MAX_VALUE, Integer.MIN_VALUE + 1, 1 << 16};

    private final Check check = new Check();
    private Random random;
    private SchemeLister x;
    private PlainLister y;
    private List<String> trail;

    public static void main(String[] args) {
        new RandomRunsTest().all(args.length > 0 ? Long.parseLong(args[0]) : 1,
                args.length > 1 ? Integer.parseInt(args[1]) : RUNS);
    }

    private void all(long seed, int runs) {
        for (int run = 0; run < runs; run++) {
            random = new Random(seed * 1000003 + run);
            x = new SchemeLister();
            y = new PlainLister();
            trail = new ArrayList<>();
            int style = random.nextInt(4);
            for (int i = 0; i < CALLS; i++) {
                step(style);
            }
        }
        check.end();
    }

    /** Mostly small numbers; now and then an edge. */
    private int some(int below) {
        return random.nextInt(20) == 0 ? EDGES[random.nextInt(EDGES.length)] : random.nextInt(below + 1) - (random.nextInt(12) == 0 ? 1 : 0);
    }

    private void both(String call, Check.Call mine, Check.Call plain) {
        trail.add(call);
        String want = Check.answer(plain);
        String got = Check.answer(mine);
        if (!got.equals(want)) {
            System.out.println("after " + String.join(" ", trail));
        }
        check.same(call, got, want);
    }

    private static int bit(boolean b) {
        return b ? 1 : 0;
    }

    private void step(int style) {
        int kind = random.nextInt(100);
        if (kind < 4) {
            text();
        } else if (kind < 50 - 10 * style) {
            act();
        } else if (kind < 55) {
            keep();
        } else {
            ask();
        }
    }

    private void text() {
        String s = random.nextInt(3) == 0 ? spoiled(goodText()) : goodText();
        byte[] bytes = s.getBytes(StandardCharsets.ISO_8859_1);
        for (int i = 0; i < bytes.length; i += 20) {
            int[] w = Check.words(bytes, i);
            both("feed", () -> x.feed(w[0], w[1], w[2], w[3], w[4]), () -> y.feed(w[0], w[1], w[2], w[3], w[4]));
        }
        int n = random.nextInt(12) == 0 ? some(30) : bytes.length;
        both("scheme(" + n + ") of '" + s + "'", () -> x.scheme(n), () -> y.scheme(n));
        both("fault", () -> x.fault(), () -> y.fault());
    }

    private String goodText() {
        StringBuilder s = new StringBuilder();
        int points = 7;
        if (random.nextInt(3) > 0) {
            points = random.nextInt(3) == 0 ? 1 + random.nextInt(8) : 6 + random.nextInt(3);
            s.append("points ").append(points).append(';');
        }
        List<Integer> lines = new ArrayList<>();
        int size = random.nextInt(5);
        int want = random.nextInt(13);
        for (int t = 0; t < 60 && points > 1; t++) {
            int k = size == 0 ? 2 : size < 3 ? 3 : 2 + random.nextInt(3);
            int l = 0;
            for (int j = 0; j < 30 && Integer.bitCount(l) < Math.min(k, points); j++) {
                l |= 1 << random.nextInt(points);
            }
            boolean ok = lines.size() < want && Integer.bitCount(l) > 1;
            for (int o : lines) {
                ok &= Integer.bitCount(o & l) < 2;
            }
            if (ok) {
                lines.add(l);
                s.append("line");
                for (int p = 0; p < 8; p++) {
                    if ((l >> p & 1) != 0) {
                        s.append(' ').append(p);
                    }
                }
                s.append(';');
            }
            if (random.nextInt(15) == 0) {
                s.append("at ").append(random.nextInt(points)).append(random.nextBoolean() ? " -" : "\n")
                        .append(random.nextInt(10)).append(random.nextBoolean() ? "-" : " ")
                        .append(random.nextInt(10)).append(" ;");
            }
        }
        return s.toString();
    }

    private String spoiled(String good) {
        StringBuilder s = new StringBuilder(good);
        String[] bits = {"9", "12", ";", "-", "points", "line", "at", "x", " ", "\n", "\t", "0", "3", "A", "\u00e9", "0 "};
        for (int i = 0; i <= random.nextInt(3); i++) {
            int at = random.nextInt(s.length() + 1);
            if (random.nextBoolean() && at < s.length()) {
                s.deleteCharAt(at);
            } else {
                s.insert(at, bits[random.nextInt(bits.length)]);
            }
        }
        return s.toString();
    }

    private int randomLine() {
        if (random.nextInt(15) == 0) {
            return some(300);
        }
        int l = 0;
        int k = 2 + random.nextInt(3);
        for (int i = 0; i < k; i++) {
            l |= 1 << random.nextInt(8);
        }
        return l;
    }

    private void act() {
        int a = some(8);
        int b = some(8);
        int c = some(9) - random.nextInt(10);
        int l = randomLine();
        boolean more = random.nextInt(5) > 1;
        switch (random.nextInt(14)) {
            case 0: case 1: case 2: case 3:
                both("add(" + l + ")", () -> x.add(l), () -> y.add(l));
                break;
            case 4: case 5:
                both("drop(" + a + ")", () -> x.drop(a), () -> y.drop(a));
                break;
            case 6:
                both("swap(" + a + "," + b + ")", () -> bit(x.swap(a, b)), () -> bit(y.swap(a, b)));
                break;
            case 7:
                both("turn()", () -> x.turn(), () -> y.turn());
                break;
            case 8: case 9:
                both("grow(" + more + ")", () -> x.grow(more), () -> y.grow(more));
                break;
            case 10: case 11:
                both("place(" + a + "," + b + "," + c + ")", () -> bit(x.place(a, b, c)), () -> bit(y.place(a, b, c)));
                break;
            case 12:
                both("put(" + a / 2 + ")", () -> x.put(a / 2), () -> y.put(a / 2));
                break;
            default:
                both("take(" + a / 2 + ")", () -> x.take(a / 2), () -> y.take(a / 2));
                break;
        }
    }

    private void keep() {
        switch (random.nextInt(6)) {
            case 0:
                x.image();
                y.image();
                trail.add("image()");
                break;
            case 1:
                both("restore()", () -> bit(x.restore()), () -> bit(y.restore()));
                break;
            default:
                both("undo()", () -> x.undo(), () -> y.undo());
                break;
        }
    }

    private void ask() {
        int a = some(8);
        int b = some(8);
        int w = some(22);
        int small = some(5);
        int seed = random.nextInt();
        int n = some(60);
        switch (random.nextInt(20)) {
            case 0: case 1: case 2: case 3:
                both("count(" + w + ")", () -> x.count(w), () -> y.count(w));
                break;
            case 4:
                both("line(" + w + ")", () -> x.line(w), () -> y.line(w));
                break;
            case 5:
                both("point(" + a + "," + small + ")", () -> x.point(a, small), () -> y.point(a, small));
                break;
            case 6:
                both("joined(" + a + "," + b + ")", () -> x.joined(a, b), () -> y.joined(a, b));
                break;
            case 7:
                both("meet(" + a + "," + b + ")", () -> x.meet(a, b), () -> y.meet(a, b));
                break;
            case 8: {
                int all = y.count(9);
                int i = random.nextInt(10) == 0 ? some(50) : random.nextInt(all + 1);
                both("symmetry(" + i + "," + a + ")", () -> x.symmetry(i, a), () -> y.symmetry(i, a));
                break;
            }
            case 9:
                both("normal(" + a + ")", () -> x.normal(a), () -> y.normal(a));
                break;
            case 10:
                both("dual(" + (a - 1) + ")", () -> x.dual(a - 1), () -> y.dual(a - 1));
                break;
            case 11: case 12:
                both("shelf(" + a / 2 + "," + small + ")", () -> x.shelf(a / 2, small), () -> y.shelf(a / 2, small));
                break;
            case 13:
                both("way(" + a / 2 + "," + b + ")", () -> x.way(a / 2, b), () -> y.way(a / 2, b));
                break;
            default:
                askMore(a, b, seed, n);
                break;
        }
    }

    private void askMore(int a, int b, int seed, int n) {
        int small = some(6);
        int c = some(4) - random.nextInt(2);
        switch (random.nextInt(7)) {
            case 0:
                both("list(" + a + "," + b + "," + c + "," + small + ")",
                        () -> x.list(a, b, c, small), () -> y.list(a, b, c, small));
                break;
            case 1:
                both("square(" + c + "," + a + ")", () -> x.square(c, a), () -> y.square(c, a));
                break;
            case 2:
                both("plane(" + c + "," + (a - 1) + ")", () -> x.plane(c, a - 1), () -> y.plane(c, a - 1));
                break;
            case 3:
                both("set(" + small + ")", () -> x.set(small), () -> y.set(small));
                break;
            case 4:
                both("far(" + a + "," + b + ")", () -> x.far(a, b), () -> y.far(a, b));
                break;
            case 5:
                both("game(" + c + ")", () -> x.game(c), () -> y.game(c));
                break;
            default:
                both("years(" + seed + "," + n + "," + c + ")", () -> x.years(seed, n, c), () -> y.years(seed, n, c));
                break;
        }
    }
}
