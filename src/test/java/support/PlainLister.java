import java.util.ArrayDeque;
import java.util.ArrayList;
import java.util.Arrays;
import java.util.Collections;
import java.util.HashMap;
import java.util.List;
import java.util.Map;
import java.util.NoSuchElementException;
import java.util.function.Predicate;

/**
 * The document once more, word by word and by trying everything, as a second opinion for the tests.
 * It shares no code and no shortcut with SchemeLister.
 */
final class PlainLister {
    static final int NONE = -1;

    /** All that acts change. */
    private static final class State {
        int points = 7;
        List<List<Integer>> lines = new ArrayList<>();
        int[] x = new int[8];
        int[] y = new int[8];
        State[] shelves = new State[4];

        State copyScheme() {
            State s = new State();
            s.points = points;
            for (List<Integer> l : lines) {
                s.lines.add(new ArrayList<>(l));
            }
            s.x = x.clone();
            s.y = y.clone();
            return s;
        }

        State copyAll() {
            State s = copyScheme();
            s.shelves = shelves.clone();
            return s;
        }
    }

    private static final class Kept {
        State state;
        ArrayDeque<State> acts;
        int texts;
        int refused;
    }

    private final List<Integer> tape = new ArrayList<>();
    private int faultAt = NONE;
    private State now = new State();
    private ArrayDeque<State> acts = new ArrayDeque<>();
    private int texts = 0;
    private int refused = 0;
    private Kept picture = null;

    // ---- texts ----

    int feed(int a, int b, int c, int d, int e) {
        if (tape.size() > 380) {
            return NONE;
        }
        for (int v : new int[] {a, b, c, d, e}) {
            tape.add(v >> 24 & 255);
            tape.add(v >> 16 & 255);
            tape.add(v >> 8 & 255);
            tape.add(v & 255);
        }
        return tape.size();
    }

    private static final class Token {
        String text;
        int at;
        char sort;
    }

    private static List<Token> tokens(List<Integer> bytes) {
        List<Token> all = new ArrayList<>();
        int i = 0;
        while (i < bytes.size()) {
            int b = bytes.get(i);
            if (b == 32 || b == 10) {
                i++;
                continue;
            }
            Token t = new Token();
            t.at = i;
            StringBuilder s = new StringBuilder();
            if (b >= 'a' && b <= 'z') {
                t.sort = 'w';
                while (i < bytes.size() && bytes.get(i) >= 'a' && bytes.get(i) <= 'z') {
                    s.append((char) (int) bytes.get(i++));
                }
            } else if (b >= '0' && b <= '9') {
                t.sort = 'n';
                while (i < bytes.size() && bytes.get(i) >= '0' && bytes.get(i) <= '9') {
                    s.append((char) (int) bytes.get(i++));
                }
            } else {
                t.sort = b == ';' ? ';' : b == '-' ? '-' : '?';
                s.append((char) b);
                i++;
            }
            t.text = s.toString();
            all.add(t);
        }
        Token end = new Token();
        end.text = "";
        end.at = bytes.size();
        end.sort = 'e';
        all.add(end);
        return all;
    }

    /** Null without a fault, else its number and place. */
    private static int[] parse(List<Integer> bytes, State s) {
        // What may stand next is told by a state: c clause, 0..4 points of a line so far, p number of points,
        // a point of 'at', x, y (X, Y behind a minus), s the closing sign.
        char wait = 'c';
        boolean anyClause = false;
        List<Integer> line = null;
        int point = 0;
        int[] xs = new int[8];
        int[] ys = new int[8];
        for (Token t : tokens(bytes)) {
            List<Integer> faults = new ArrayList<>();
            boolean number = t.sort == 'n';
            int value = number ? t.text.length() > 1 ? 99 : t.text.charAt(0) - '0' : 0;
            char then = '!';
            switch (wait) {
                case 'c':
                    if (t.sort == 'e') {
                        System.arraycopy(xs, 0, s.x, 0, 8);
                        System.arraycopy(ys, 0, s.y, 0, 8);
                        return null;
                    }
                    if (t.text.equals("points")) {
                        if (anyClause) {
                            faults.add(4);
                        }
                        then = 'p';
                    } else if (t.text.equals("line")) {
                        if (s.lines.size() >= 12) {
                            faults.add(2);
                        }
                        line = new ArrayList<>();
                        then = '0';
                    } else if (t.text.equals("at")) {
                        then = 'a';
                    } else {
                        faults.add(1);
                    }
                    anyClause = true;
                    break;
                case 'p':
                    if (!number) {
                        faults.add(1);
                    } else if (value < 1 || value > 8) {
                        faults.add(2);
                    }
                    s.points = value;
                    then = 's';
                    break;
                case '0': case '1': case '2': case '3': case '4':
                    if (t.sort == ';' && wait >= '2') {
                        for (List<Integer> other : s.lines) {
                            List<Integer> common = new ArrayList<>(other);
                            common.retainAll(line);
                            if (common.size() >= 2) {
                                faults.add(5);
                            }
                        }
                        s.lines.add(line);
                        then = 'c';
                    } else if (!number || wait == '4') {
                        faults.add(1);
                    } else {
                        if (t.text.length() > 1) {
                            faults.add(2);
                        } else if (value >= s.points) {
                            faults.add(3);
                        } else if (line.contains(value)) {
                            faults.add(5);
                        }
                        line.add(value);
                        then = (char) (wait + 1);
                    }
                    break;
                case 'a':
                    if (!number) {
                        faults.add(1);
                    } else if (t.text.length() > 1) {
                        faults.add(2);
                    } else if (value >= s.points) {
                        faults.add(3);
                    }
                    point = value;
                    then = 'x';
                    break;
                case 'x': case 'y': case 'X': case 'Y':
                    if (t.sort == '-' && (wait == 'x' || wait == 'y')) {
                        then = wait == 'x' ? 'X' : 'Y';
                        break;
                    }
                    if (!number) {
                        faults.add(1);
                    } else if (t.text.length() > 1) {
                        faults.add(2);
                    } else if (wait == 'x' || wait == 'X') {
                        xs[point] = wait == 'X' ? -value : value;
                    } else {
                        ys[point] = wait == 'Y' ? -value : value;
                    }
                    then = wait == 'x' || wait == 'X' ? 'y' : 's';
                    break;
                default:
                    if (t.sort != ';') {
                        faults.add(1);
                    }
                    then = 'c';
                    break;
            }
            if (!faults.isEmpty()) {
                return new int[] {Collections.min(faults), t.at};
            }
            wait = then;
        }
        throw new IllegalStateException("a text without end");
    }

    int scheme(int n) {
        if (n < 0 || n > tape.size()) {
            throw new IllegalArgumentException();
        }
        List<Integer> text = new ArrayList<>(tape.subList(0, n));
        tape.clear();
        State s = new State();
        int[] fault = parse(text, s);
        if (fault != null) {
            texts++;
            faultAt = fault[1];
            return fault[0];
        }
        faultAt = NONE;
        now = s;
        acts.clear();
        picture = null;
        return 0;
    }

    int fault() {
        return faultAt;
    }

    // ---- helpers ----

    private static int number(List<Integer> line) {
        int sum = 0;
        for (int p : line) {
            sum += 1 << p;
        }
        return sum;
    }

    private static List<Integer> common(List<Integer> a, List<Integer> b) {
        List<Integer> c = new ArrayList<>(a);
        c.retainAll(b);
        return c;
    }

    private static boolean lineWith(State s, int... points) {
        for (List<Integer> l : s.lines) {
            boolean all = true;
            for (int p : points) {
                all &= l.contains(p);
            }
            if (all) {
                return true;
            }
        }
        return false;
    }

    private static List<Integer> numbers(State s) {
        List<Integer> all = new ArrayList<>();
        for (List<Integer> l : s.lines) {
            all.add(number(l));
        }
        return all;
    }

    private static String key(State s) {
        return s.points + ":" + numbers(s);
    }

    private static void permute(int[] way, int at, int size, boolean[] used, List<int[]> out) {
        if (at == way.length) {
            out.add(way.clone());
            return;
        }
        for (int v = 0; v < size; v++) {
            if (!used[v]) {
                used[v] = true;
                way[at] = v;
                permute(way, at + 1, size, used, out);
                used[v] = false;
            }
        }
    }

    private static final Map<Integer, List<int[]>> NAMINGS = new HashMap<>();

    /** All ways to give k points names out of n, none twice, in order. */
    private static List<int[]> namings(int k, int n) {
        return NAMINGS.computeIfAbsent(k * 10 + n, x -> {
            List<int[]> out = new ArrayList<>();
            permute(new int[k], 0, n, new boolean[n], out);
            return out;
        });
    }

    private static int mapped(int number, int[] way) {
        int sum = 0;
        for (int p = 0; p < way.length; p++) {
            if ((number & 1 << p) != 0) {
                sum |= 1 << way[p];
            }
        }
        return sum;
    }

    private static final Map<String, List<int[]>> SYMMETRIES = new HashMap<>();

    private static List<int[]> symmetries(State s) {
        return SYMMETRIES.computeIfAbsent(key(s), k -> likes(s, s));
    }

    private static List<int[]> likes(State a, State b) {
        List<int[]> out = new ArrayList<>();
        if (a.points != b.points || a.lines.size() != b.lines.size()) {
            return out;
        }
        List<Integer> from = numbers(a);
        List<Integer> to = numbers(b);
        for (int[] way : namings(a.points, a.points)) {
            boolean ok = true;
            for (int l : from) {
                ok = ok && to.contains(mapped(l, way));
            }
            if (ok) {
                out.add(way);
            }
        }
        return out;
    }

    private static final Map<String, List<int[]>> WITHIN = new HashMap<>();

    private static List<int[]> withins(State a, State b) {
        return WITHIN.computeIfAbsent(key(a) + " in " + key(b), k -> {
            List<int[]> out = new ArrayList<>();
            if (a.points > b.points) {
                return out;
            }
            List<Integer> from = numbers(a);
            List<Integer> to = numbers(b);
            for (int[] way : namings(a.points, b.points)) {
                List<Integer> hosts = new ArrayList<>();
                for (int l : from) {
                    int m = mapped(l, way);
                    for (int i = 0; i < to.size(); i++) {
                        if ((m & ~to.get(i)) == 0) {
                            hosts.add(i);
                        }
                    }
                }
                if (hosts.size() == from.size() && hosts.stream().distinct().count() == hosts.size()) {
                    out.add(way);
                }
            }
            return out;
        });
    }

    private static List<Integer> normalRow(int points, List<Integer> numbers) {
        List<Integer> best = null;
        for (int[] way : namings(points, points)) {
            List<Integer> row = new ArrayList<>();
            for (int l : numbers) {
                row.add(mapped(l, way));
            }
            Collections.sort(row);
            if (best == null || compare(row, best) < 0) {
                best = row;
            }
        }
        return best;
    }

    private static int compare(List<Integer> a, List<Integer> b) {
        for (int i = 0; i < a.size(); i++) {
            int c = Integer.compare(a.get(i), b.get(i));
            if (c != 0) {
                return c;
            }
        }
        return 0;
    }

    private static int linesOn(State s, int p) {
        int bits = 0;
        for (int i = 0; i < s.lines.size(); i++) {
            if (s.lines.get(i).contains(p)) {
                bits |= 1 << i;
            }
        }
        return bits;
    }

    private static State dualOf(State s) {
        if (s.lines.isEmpty() || s.lines.size() > 8) {
            return null;
        }
        State d = new State();
        d.points = s.lines.size();
        for (int p = 0; p < s.points; p++) {
            List<Integer> line = new ArrayList<>();
            for (int i = 0; i < s.lines.size(); i++) {
                if (s.lines.get(i).contains(p)) {
                    line.add(i);
                }
            }
            if (line.size() > 4) {
                return null;
            }
            if (line.size() >= 2) {
                d.lines.add(line);
            }
        }
        return d;
    }

    private static List<int[]> dualities(State s) {
        List<int[]> out = new ArrayList<>();
        if (s.points != s.lines.size()) {
            return out;
        }
        for (int[] way : namings(s.points, s.points)) {
            List<Integer> hit = new ArrayList<>();
            for (List<Integer> line : s.lines) {
                int become = 0;
                for (int p : line) {
                    become |= 1 << way[p];
                }
                for (int p = 0; p < s.points; p++) {
                    if (linesOn(s, p) == become) {
                        hit.add(p);
                    }
                }
            }
            if (hit.size() == s.lines.size() && hit.stream().distinct().count() == hit.size()) {
                out.add(way);
            }
        }
        return out;
    }

    private static int polarities(State s) {
        int sum = 0;
        for (int[] way : dualities(s)) {
            boolean ok = true;
            for (int p = 0; p < s.points; p++) {
                for (int q = 0; q < s.points; q++) {
                    ok &= s.lines.get(way[q]).contains(p) == s.lines.get(way[p]).contains(q);
                }
            }
            sum += ok ? 1 : 0;
        }
        return sum;
    }

    private static int combos(int n, int k, Predicate<int[]> good) {
        int sum = 0;
        for (int mask = 0; mask < 1 << n; mask++) {
            if (Integer.bitCount(mask) == k) {
                int[] chosen = new int[k];
                int at = 0;
                for (int i = 0; i < n; i++) {
                    if ((mask & 1 << i) != 0) {
                        chosen[at++] = i;
                    }
                }
                sum += good.test(chosen) ? 1 : 0;
            }
        }
        return sum;
    }

    /** How many unlike points all pairs of some lines meet in; NONE if two don't meet. */
    private static int meets(State s, int[] lines) {
        List<Integer> points = new ArrayList<>();
        for (int i = 0; i < lines.length; i++) {
            for (int j = i + 1; j < lines.length; j++) {
                List<Integer> c = common(s.lines.get(lines[i]), s.lines.get(lines[j]));
                if (c.isEmpty()) {
                    return NONE;
                }
                points.add(c.get(0));
            }
        }
        return (int) points.stream().distinct().count();
    }

    private static int triangles(State s) {
        return combos(s.lines.size(), 3, l -> meets(s, l) == 3);
    }

    private static int[] pieces(State s) {
        int[] least = new int[s.points];
        for (int p = 0; p < s.points; p++) {
            least[p] = p;
        }
        for (int round = 0; round < 9; round++) {
            for (List<Integer> l : s.lines) {
                int low = 9;
                for (int p : l) {
                    low = Math.min(low, least[p]);
                }
                for (int p : l) {
                    least[p] = low;
                }
            }
        }
        return least;
    }

    private static boolean aligned(State s, int p, int q, int r) {
        return s.x[p] * (s.y[q] - s.y[r]) + s.x[q] * (s.y[r] - s.y[p]) + s.x[r] * (s.y[p] - s.y[q]) == 0;
    }

    private static int slips(State s) {
        int sum = 0;
        for (List<Integer> l : s.lines) {
            boolean bad = false;
            for (int p : l) {
                for (int q : l) {
                    bad |= p != q && s.x[p] == s.x[q] && s.y[p] == s.y[q];
                    for (int r : l) {
                        bad |= !aligned(s, p, q, r);
                    }
                }
            }
            sum += bad ? 1 : 0;
        }
        return sum;
    }

    private static int strays(State s) {
        return combos(s.points, 3, t -> !lineWith(s, t[0], t[1], t[2]) && aligned(s, t[0], t[1], t[2]));
    }

    /** Tries rings line by line. */
    private static int girth(State s) {
        for (int size = 3; size <= s.lines.size(); size++) {
            for (int i = 0; i < s.lines.size(); i++) {
                if (ring(s, new ArrayList<>(List.of(i)), new ArrayList<>(), size)) {
                    return size;
                }
            }
        }
        return NONE;
    }

    private static boolean ring(State s, List<Integer> lines, List<Integer> points, int size) {
        List<Integer> last = s.lines.get(lines.get(lines.size() - 1));
        if (lines.size() == size) {
            List<Integer> c = common(last, s.lines.get(lines.get(0)));
            return !c.isEmpty() && !points.contains(c.get(0));
        }
        for (int i = 0; i < s.lines.size(); i++) {
            List<Integer> c = common(last, s.lines.get(i));
            if (!lines.contains(i) && !c.isEmpty() && !points.contains(c.get(0))) {
                lines.add(i);
                points.add(c.get(0));
                if (ring(s, lines, points, size)) {
                    return true;
                }
                lines.remove(lines.size() - 1);
                points.remove(points.size() - 1);
            }
        }
        return false;
    }

    private static int[] regular(State s) {
        if (s.lines.isEmpty()) {
            return new int[] {0, 0};
        }
        int r = Integer.bitCount(linesOn(s, 0));
        int k = s.lines.get(0).size();
        for (int p = 0; p < s.points; p++) {
            if (Integer.bitCount(linesOn(s, p)) != r) {
                return null;
            }
        }
        for (List<Integer> l : s.lines) {
            if (l.size() != k) {
                return null;
            }
        }
        return new int[] {r, k};
    }

    private static int leastOfOrbit(State s, int p) {
        int low = p;
        for (int[] way : symmetries(s)) {
            low = Math.min(low, way[p]);
        }
        return low;
    }

    private void wantPoint(int p) {
        if (p < 0 || p >= now.points) {
            throw new NoSuchElementException();
        }
    }

    private void wantLine(int l) {
        if (l < 0 || l >= now.lines.size()) {
            throw new NoSuchElementException();
        }
    }

    // ---- questions ----

    int count(int what) {
        int[] regular = regular(now);
        int m = now.lines.size();
        switch (what) {
            case 0: return now.points;
            case 1: return m;
            case 2: return now.lines.stream().mapToInt(List::size).sum();
            case 3: return regular == null ? 0 : 1;
            case 4: return regular == null ? NONE : regular[0];
            case 5: return regular == null ? NONE : regular[1];
            case 6: return combos(now.points, 2, t -> lineWith(now, t[0], t[1]));
            case 7: return triangles(now);
            case 8: return (int) Arrays.stream(pieces(now)).distinct().count();
            case 9: return symmetries(now).size();
            case 10: return combos(now.points, 1, t -> leastOfOrbit(now, t[0]) == t[0]);
            case 11: return dualities(now).size();
            case 12: return polarities(now);
            case 13: return slips(now);
            case 14: return strays(now);
            case 15: return girth(now);
            case 16: return acts.size();
            case 17: return tape.size();
            case 18: return texts;
            case 19: return refused;
            case 20: return combos(m, 4, l -> meets(now, l) == 6);
            case 21: return combos(m, 2, l -> meets(now, l) == NONE);
            default: throw new NoSuchElementException();
        }
    }

    int line(int l) {
        wantLine(l);
        return number(now.lines.get(l));
    }

    int point(int p, int what) {
        wantPoint(p);
        switch (what) {
            case 0: return linesOn(now, p);
            case 1: return now.x[p];
            case 2: return now.y[p];
            case 3: return leastOfOrbit(now, p);
            case 4: return pieces(now)[p];
            default: throw new NoSuchElementException();
        }
    }

    int joined(int p, int q) {
        wantPoint(p);
        wantPoint(q);
        if (p == q) {
            throw new IllegalArgumentException();
        }
        for (int i = 0; i < now.lines.size(); i++) {
            if (now.lines.get(i).contains(p) && now.lines.get(i).contains(q)) {
                return i;
            }
        }
        return NONE;
    }

    int meet(int l, int k) {
        wantLine(l);
        wantLine(k);
        if (l == k) {
            throw new IllegalArgumentException();
        }
        List<Integer> c = common(now.lines.get(l), now.lines.get(k));
        return c.isEmpty() ? NONE : c.get(0);
    }

    int symmetry(int i, int p) {
        wantPoint(p);
        List<int[]> all = symmetries(now);
        if (i < 0 || i >= all.size()) {
            throw new NoSuchElementException();
        }
        return all.get(i)[p];
    }

    int normal(int i) {
        wantLine(i);
        return normalRow(now.points, numbers(now)).get(i);
    }

    int dual(int i) {
        State d = dualOf(now);
        if (i == NONE) {
            return d == null ? NONE : d.lines.size();
        }
        if (d == null || i < 0 || i >= d.lines.size()) {
            throw new NoSuchElementException();
        }
        return number(d.lines.get(i));
    }

    private State wantShelved(int shelf) {
        if (shelf < 0 || shelf > 3 || now.shelves[shelf] == null) {
            throw new NoSuchElementException();
        }
        return now.shelves[shelf];
    }

    int shelf(int shelf, int what) {
        State there = wantShelved(shelf);
        switch (what) {
            case 0: return likes(there, now).size();
            case 1: return withins(there, now).size();
            case 2: return there.points;
            case 3: return there.lines.size();
            default: throw new NoSuchElementException();
        }
    }

    int way(int shelf, int p) {
        State there = wantShelved(shelf);
        if (p < 0 || p >= there.points) {
            throw new NoSuchElementException();
        }
        List<int[]> ways = withins(there, now);
        return ways.isEmpty() ? NONE : ways.get(0)[p];
    }

    // ---- acts ----

    private int refuse() {
        refused++;
        return NONE;
    }

    private void before() {
        acts.addLast(now.copyAll());
        if (acts.size() > 40) {
            acts.removeFirst();
        }
        now = now.copyAll();
    }

    private static boolean addable(State s, List<Integer> line) {
        if (s.lines.size() >= 12) {
            return false;
        }
        for (List<Integer> l : s.lines) {
            if (common(l, line).size() > 1) {
                return false;
            }
        }
        return true;
    }

    int add(int line) {
        List<Integer> points = new ArrayList<>();
        for (int p = 0; p < 32; p++) {
            if ((line >>> p & 1) != 0) {
                points.add(p);
            }
        }
        boolean there = points.size() >= 2 && points.size() <= 4 && points.get(points.size() - 1) < now.points;
        if (!there || !addable(now, points)) {
            return refuse();
        }
        before();
        now.lines.add(points);
        return now.lines.size() - 1;
    }

    int drop(int line) {
        if (line < 0 || line >= now.lines.size()) {
            return refuse();
        }
        before();
        return number(now.lines.remove(line));
    }

    boolean swap(int p, int q) {
        if (p < 0 || q < 0 || p >= now.points || q >= now.points || p == q) {
            refuse();
            return false;
        }
        before();
        for (List<Integer> l : now.lines) {
            l.replaceAll(v -> v == p ? q : v == q ? p : v);
        }
        int x = now.x[p];
        int y = now.y[p];
        now.x[p] = now.x[q];
        now.y[p] = now.y[q];
        now.x[q] = x;
        now.y[q] = y;
        return true;
    }

    int turn() {
        State d = dualOf(now);
        if (d == null) {
            return refuse();
        }
        before();
        d.shelves = now.shelves;
        now = d;
        return d.lines.size();
    }

    int grow(boolean more) {
        if (now.points == (more ? 8 : 1)) {
            return refuse();
        }
        before();
        if (more) {
            now.x[now.points] = 0;
            now.y[now.points] = 0;
            now.points++;
        } else {
            now.points--;
            now.lines.removeIf(l -> l.contains(now.points));
        }
        return now.points;
    }

    boolean place(int p, int x, int y) {
        if (p < 0 || p >= now.points || x < -9 || x > 9 || y < -9 || y > 9) {
            refuse();
            return false;
        }
        before();
        now.x[p] = x;
        now.y[p] = y;
        return true;
    }

    int put(int shelf) {
        if (shelf < 0 || shelf > 3) {
            return refuse();
        }
        before();
        int was = now.shelves[shelf] == null ? 0 : 1;
        now.shelves[shelf] = now.copyScheme();
        return was;
    }

    int take(int shelf) {
        if (shelf < 0 || shelf > 3 || now.shelves[shelf] == null) {
            return refuse();
        }
        before();
        State taken = now.shelves[shelf].copyScheme();
        taken.shelves = now.shelves;
        now = taken;
        return now.points;
    }

    int undo() {
        if (acts.isEmpty()) {
            return NONE;
        }
        now = acts.removeLast();
        return acts.size();
    }

    // ---- lists, drawings, sets, games, years ----

    private static final Map<Integer, List<List<Integer>>> LISTS = new HashMap<>();

    private static void systems(int n, int m, int from, List<Integer> row, List<List<Integer>> out) {
        if (row.size() == m) {
            if (normalRow(n, row).equals(row)) {
                out.add(new ArrayList<>(row));
            }
            return;
        }
        for (int t = from; t < 1 << n; t++) {
            boolean ok = Integer.bitCount(t) == 3;
            for (int o : row) {
                ok = ok && Integer.bitCount(o & t) < 2;
            }
            if (ok) {
                row.add(t);
                systems(n, m, t + 1, row, out);
                row.remove(row.size() - 1);
            }
        }
    }

    private static List<List<Integer>> systems(int n, int m) {
        return LISTS.computeIfAbsent(10 * n + m, k -> {
            List<List<Integer>> out = new ArrayList<>();
            systems(n, m, 0, new ArrayList<>(), out);
            return out;
        });
    }

    int list(int n, int m, int i, int j) {
        if (n < 3 || n > 7 || m < 0 || m > 7) {
            throw new IllegalArgumentException();
        }
        List<List<Integer>> all = systems(n, m);
        if (i == NONE) {
            return all.size();
        }
        if (i < 0 || i >= all.size() || j < 0 || j >= m) {
            throw new NoSuchElementException();
        }
        return all.get(i).get(j);
    }

    private interface InLine {
        boolean test(int a, int b, int c);
    }

    /** All drawings (or just the first one), by trying place after place. */
    private static int draw(State s, int places, InLine inLine, int[] seats, int p, int[] first, boolean all) {
        if (p == s.points) {
            if (first[0] == NONE) {
                System.arraycopy(seats, 0, first, 0, s.points);
            }
            return 1;
        }
        int sum = 0;
        for (int place = 0; place < places; place++) {
            boolean ok = true;
            for (int q = 0; q < p && ok; q++) {
                ok = seats[q] != place;
            }
            for (int q = 0; q < p && ok; q++) {
                for (int r = q + 1; r < p && ok; r++) {
                    ok = inLine.test(place, seats[q], seats[r]) == lineWith(s, p, q, r);
                }
            }
            if (ok) {
                seats[p] = place;
                sum += draw(s, places, inLine, seats, p + 1, first, all);
                if (!all && sum > 0) {
                    return sum;
                }
            }
        }
        return sum;
    }

    private static final Map<String, int[]> DRAWN = new HashMap<>();

    int square(int g, int p) {
        wantPoint(p);
        if (g < 2 || g > 4) {
            throw new IllegalArgumentException();
        }
        return DRAWN.computeIfAbsent("square " + g + key(now), k -> {
            int[] first = new int[8];
            Arrays.fill(first, NONE);
            draw(now, g * g, (a, b, c) -> {
                int ax = a % g;
                int ay = a / g;
                return (b % g - ax) * (c / g - ay) - (c % g - ax) * (b / g - ay) == 0;
            }, new int[8], 0, first, false);
            return first;
        })[p];
    }

    int plane(int q, int p) {
        if (p != NONE) {
            wantPoint(p);
        }
        if (q != 2 && q != 3) {
            throw new IllegalArgumentException();
        }
        int[] found = DRAWN.computeIfAbsent("plane " + q + key(now), k -> {
            List<int[]> places = new ArrayList<>();
            for (int x = 0; x < q; x++) {
                for (int y = 0; y < q; y++) {
                    for (int z = 0; z < q; z++) {
                        if (x == 1 || x == 0 && y == 1 || x == 0 && y == 0 && z == 1) {
                            places.add(new int[] {x, y, z});
                        }
                    }
                }
            }
            int[] first = new int[9];
            Arrays.fill(first, NONE);
            first[8] = draw(now, places.size(), (a, b, c) -> {
                int[] u = places.get(a);
                int[] v = places.get(b);
                int[] w = places.get(c);
                int span = u[0] * (v[1] * w[2] - w[1] * v[2]) + v[0] * (w[1] * u[2] - u[1] * w[2])
                        + w[0] * (u[1] * v[2] - v[1] * u[2]);
                return Math.floorMod(span, q) == 0;
            }, new int[8], 0, first, true);
            return first;
        });
        return p == NONE ? found[8] : found[p];
    }

    private static boolean within(State s, int some) {
        for (int l : numbers(s)) {
            if ((l & some) == l) {
                return true;
            }
        }
        return false;
    }

    int set(int what) {
        int all = (1 << now.points) - 1;
        List<Integer> good = new ArrayList<>();
        switch (what) {
            case 0:
                for (int a = 0; a <= all; a++) {
                    int some = a;
                    if (numbers(now).stream().allMatch(l -> (l & some) != 0)) {
                        good.add(a);
                    }
                }
                good.sort((a, b) -> Integer.bitCount(a) != Integer.bitCount(b)
                        ? Integer.bitCount(a) - Integer.bitCount(b) : a - b);
                return good.get(0);
            case 1:
                for (int a = 0; a <= all; a++) {
                    if (!within(now, a)) {
                        good.add(a);
                    }
                }
                good.sort((a, b) -> Integer.bitCount(a) != Integer.bitCount(b)
                        ? Integer.bitCount(b) - Integer.bitCount(a) : a - b);
                return good.get(0);
            case 2: case 3:
                for (int a = 0; a <= all; a++) {
                    if (a % 2 == 1 && !within(now, a) && !within(now, all - a)) {
                        good.add(a);
                    }
                }
                return what == 2 ? good.size() : good.isEmpty() ? NONE : good.get(0);
            case 4: case 5:
                for (int a = 0; a < 1 << now.lines.size(); a++) {
                    int[] times = new int[8];
                    for (int i = 0; i < now.lines.size(); i++) {
                        if ((a & 1 << i) != 0) {
                            now.lines.get(i).forEach(p -> times[p]++);
                        }
                    }
                    if (Arrays.stream(times, 0, now.points).allMatch(t -> t == 1)) {
                        good.add(a);
                    }
                }
                return what == 4 ? good.size() : good.isEmpty() ? NONE : good.get(0);
            default:
                throw new NoSuchElementException();
        }
    }

    int far(int p, int q) {
        wantPoint(p);
        wantPoint(q);
        int[] steps = new int[now.points];
        Arrays.fill(steps, 99);
        steps[p] = 0;
        for (int round = 0; round < 9; round++) {
            for (List<Integer> l : now.lines) {
                for (int a : l) {
                    for (int b : l) {
                        steps[b] = Math.min(steps[b], steps[a] + 1);
                    }
                }
            }
        }
        return steps[q] >= 99 ? NONE : steps[q];
    }

    /** What the first player comes to from here, he being the one with the points in one; whose: his turn or not. */
    private static int play(State s, int one, int two, boolean firsts, Map<Integer, Integer> memo) {
        if (within(s, one)) {
            return 1;
        }
        if (within(s, two)) {
            return -1;
        }
        if ((one | two) == (1 << s.points) - 1) {
            return 0;
        }
        Integer known = memo.get(one << 8 | two);
        if (known != null) {
            return known;
        }
        int best = firsts ? -2 : 2;
        for (int p = 0; p < s.points; p++) {
            if (((one | two) & 1 << p) == 0) {
                int v = firsts ? play(s, one | 1 << p, two, false, memo) : play(s, one, two | 1 << p, true, memo);
                best = firsts ? Math.max(best, v) : Math.min(best, v);
            }
        }
        memo.put(one << 8 | two, best);
        return best;
    }

    int game(int what) {
        if (what != 0 && what != 1) {
            throw new NoSuchElementException();
        }
        Map<Integer, Integer> memo = new HashMap<>();
        int worth = play(now, 0, 0, true, memo);
        if (what == 0) {
            return worth;
        }
        for (int p = 0; p < now.points; p++) {
            if (play(now, 1 << p, 0, false, memo) == worth) {
                return p;
            }
        }
        return NONE;
    }

    int years(int seed, int n, int what) {
        if (what < 0 || what > 2) {
            throw new NoSuchElementException();
        }
        if (n < 0 || n > 60) {
            throw new IllegalArgumentException();
        }
        State s = now.copyScheme();
        int[] state = {seed};
        int added = 0;
        for (int year = 0; year < n; year++) {
            int act = random(state, 3);
            if (act == 2) {
                if (!s.lines.isEmpty()) {
                    s.lines.remove(random(state, s.lines.size()));
                }
                continue;
            }
            int a = random(state, s.points);
            int b = random(state, s.points);
            int c = random(state, s.points);
            if (a != b && b != c && a != c && addable(s, List.of(a, b, c))) {
                s.lines.add(new ArrayList<>(List.of(a, b, c)));
                added++;
            }
        }
        return what == 0 ? s.lines.size() : what == 1 ? triangles(s) : added;
    }

    private static int random(int[] state, int n) {
        state[0] = (int) (state[0] * 1103515245L + 12345L);
        return (state[0] >> 16 & 0x7fff) % n;
    }

    void image() {
        picture = new Kept();
        picture.state = now.copyAll();
        picture.acts = new ArrayDeque<>(acts);
        picture.texts = texts;
        picture.refused = refused;
    }

    boolean restore() {
        if (picture == null) {
            return false;
        }
        now = picture.state.copyAll();
        acts = new ArrayDeque<>(picture.acts);
        texts = picture.texts;
        refused = picture.refused;
        return true;
    }
}
