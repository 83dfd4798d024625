import java.util.Arrays;
import java.util.NoSuchElementException;

/** Schemes of points and lines, two lines having one point at most; see the document for every promise. */
public final class SchemeLister {
    public static final int NONE = -1;

    private static final int MOST_POINTS = 8;
    private static final int FIRST_POINTS = 7;
    private static final int MOST_LINES = 12;
    private static final int LEAST_ON_LINE = 2;
    private static final int MOST_ON_LINE = 4;
    private static final int MOST_BYTES = 400;
    private static final int FED_BYTES = 20;
    private static final int SHELF_COUNT = 4;
    private static final int MOST_ACTS = 40;
    private static final int FARTHEST_AT = 9;
    private static final int MOST_YEARS = 60;

    private final int[] tape = new int[MOST_BYTES];
    private int tapeLength = 0;
    private int faultPlace = NONE;
    private Card card = new Card(new Scheme(FIRST_POINTS, new int[0], 0), new int[MOST_POINTS], new int[MOST_POINTS]);
    private final Card[] shelves = new Card[SHELF_COUNT];
    private Act lastAct = null;
    private int keptActs = 0;
    private int refusedTexts = 0;
    private int refusedActs = 0;
    private Image kept = null;
    private final Reader reader = new Reader();
    private final Matcher matcher = new Matcher();
    private final Least least = new Least();
    private final Drawer drawer = new Drawer();
    private final Player player = new Player();
    private final Sets sets = new Sets();
    private final Years course = new Years();

    public SchemeLister() {
    }

    public int feed(int a, int b, int c, int d, int e) {
        if (tapeLength + FED_BYTES > MOST_BYTES) {
            return NONE;
        }
        spool(a);
        spool(b);
        spool(c);
        spool(d);
        spool(e);
        return tapeLength;
    }

    public int scheme(int n) throws IllegalArgumentException {
        if (n < 0 || n > tapeLength) {
            throw new IllegalArgumentException();
        }
        int found = reader.read(tape, n);
        tapeLength = 0;
        if (found != 0) {
            faultPlace = reader.place;
            refusedTexts++;
            return found;
        }
        faultPlace = NONE;
        card = reader.told();
        for (int i = 0; i < SHELF_COUNT; i++) {
            shelves[i] = null;
        }
        lastAct = null;
        keptActs = 0;
        kept = null;
        return 0;
    }

    public int fault() {
        return faultPlace;
    }

    public int count(int what) throws NoSuchElementException {
        Scheme now = card.scheme;
        switch (what) {
            case 0: return now.points;
            case 1: return now.lines;
            case 2: return now.flags();
            case 3: return now.isRegular() ? 1 : 0;
            case 4: return now.isRegular() ? now.degree[0] : NONE;
            case 5: return now.isRegular() ? now.firstSize() : NONE;
            case 6: return now.joinedPairs();
            case 7: return now.triangles();
            case 8: return now.pieces();
            case 9: return matcher.measured(now)[0];
            case 10: return matcher.orbits(now);
            case 11: return matcher.dualities(now);
            case 12: return matcher.polarities(now);
            case 13: return card.slips();
            case 14: return card.strays();
            case 15: return now.girth();
            case 16: return keptActs;
            case 17: return tapeLength;
            case 18: return refusedTexts;
            case 19: return refusedActs;
            case 20: return now.fours();
            case 21: return now.apart();
            default: throw new NoSuchElementException();
        }
    }

    public int line(int line) throws NoSuchElementException {
        needLine(line);
        return card.scheme.row[line];
    }

    public int point(int point, int what) throws NoSuchElementException {
        needPoint(point);
        switch (what) {
            case 0: return card.scheme.on[point];
            case 1: return card.xs[point];
            case 2: return card.ys[point];
            case 3: return matcher.orbitsOf(card.scheme)[point];
            case 4: return Integer.numberOfTrailingZeros(card.scheme.piece(point));
            default: throw new NoSuchElementException();
        }
    }

    public int joined(int point, int other) throws NoSuchElementException, IllegalArgumentException {
        needPoint(point);
        needPoint(other);
        needUnlike(point, other);
        return card.scheme.join[point * MOST_POINTS + other];
    }

    public int meet(int line, int other) throws NoSuchElementException, IllegalArgumentException {
        needLine(line);
        needLine(other);
        needUnlike(line, other);
        int common = card.scheme.row[line] & card.scheme.row[other];
        return common == 0 ? NONE : Integer.numberOfTrailingZeros(common);
    }

    public int symmetry(int i, int point) throws NoSuchElementException {
        needPoint(point);
        if (i < 0 || i >= matcher.measured(card.scheme)[0]) {
            throw new NoSuchElementException();
        }
        return matcher.symmetric(card.scheme, i, point);
    }

    public int normal(int i) throws NoSuchElementException {
        needLine(i);
        return least.leastRow(card.scheme)[i];
    }

    public int dual(int i) throws NoSuchElementException {
        Scheme turned = card.scheme.turned();
        if (i == NONE) {
            return turned == null ? NONE : turned.lines;
        }
        if (turned == null || i < 0 || i >= turned.lines) {
            throw new NoSuchElementException();
        }
        return turned.row[i];
    }

    public int shelf(int shelf, int what) throws NoSuchElementException {
        Scheme there = needShelved(shelf);
        switch (what) {
            case 0: return matcher.likeWays(there, card.scheme);
            case 1: return matcher.withinWays(there, card.scheme);
            case 2: return there.points;
            case 3: return there.lines;
            default: throw new NoSuchElementException();
        }
    }

    public int way(int shelf, int point) throws NoSuchElementException {
        Scheme there = needShelved(shelf);
        if (point < 0 || point >= there.points) {
            throw new NoSuchElementException();
        }
        return matcher.firstWithin(there, card.scheme, point);
    }

    public int add(int line) {
        Scheme now = card.scheme;
        if (!now.canTake(line)) {
            return refuse();
        }
        int[] numbers = Arrays.copyOf(now.row, now.lines + 1);
        numbers[now.lines] = line;
        change(card.with(new Scheme(now.points, numbers, now.lines + 1)));
        return now.lines;
    }

    public int drop(int line) {
        Scheme now = card.scheme;
        if (line < 0 || line >= now.lines) {
            return refuse();
        }
        int dropped = now.row[line];
        int[] numbers = now.row.clone();
        for (int i = line; i + 1 < now.lines; i++) {
            numbers[i] = now.row[i + 1];
        }
        change(card.with(new Scheme(now.points, numbers, now.lines - 1)));
        return dropped;
    }

    public boolean swap(int point, int other) {
        if (!isPoint(point) || !isPoint(other) || point == other) {
            refuse();
            return false;
        }
        change(card.swapped(point, other));
        return true;
    }

    public int turn() {
        Scheme turned = card.scheme.turned();
        if (turned == null) {
            return refuse();
        }
        change(new Card(turned, new int[MOST_POINTS], new int[MOST_POINTS]));
        return turned.lines;
    }

    public int grow(boolean more) {
        int points = card.scheme.points + (more ? 1 : -1);
        if (points < 1 || points > MOST_POINTS) {
            return refuse();
        }
        change(more ? card.with(card.scheme.withPoints(points)) : card.shrunk());
        return points;
    }

    public boolean place(int point, int x, int y) {
        if (!isPoint(point) || !isPlace(x) || !isPlace(y)) {
            refuse();
            return false;
        }
        change(card.placed(point, x, y));
        return true;
    }

    public int put(int shelf) {
        if (shelf < 0 || shelf >= SHELF_COUNT) {
            return refuse();
        }
        int before = shelves[shelf] == null ? 0 : 1;
        remember(shelf, shelves[shelf]);
        shelves[shelf] = card;
        return before;
    }

    public int take(int shelf) {
        if (shelf < 0 || shelf >= SHELF_COUNT || shelves[shelf] == null) {
            return refuse();
        }
        change(shelves[shelf]);
        return card.scheme.points;
    }

    public int undo() {
        if (keptActs <= 0 || lastAct == null) {
            return NONE;
        }
        if (lastAct.shelf == NONE) {
            card = lastAct.before;
        } else {
            shelves[lastAct.shelf] = lastAct.before;
        }
        lastAct = lastAct.earlier;
        keptActs--;
        return keptActs;
    }

    public int list(int n, int m, int i, int j) throws IllegalArgumentException, NoSuchElementException {
        if (n < Least.FEWEST || n > Least.WIDEST || m < 0 || m > Least.LONGEST) {
            throw new IllegalArgumentException();
        }
        least.prepare(m);
        if (i == NONE) {
            return least.listed(n, m);
        }
        int at = j < 0 || j >= m ? NONE : least.startOf(n, m, i);
        if (at == NONE) {
            throw new NoSuchElementException();
        }
        return least.listedNumber(m, at + j);
    }

    public int square(int g, int point) throws NoSuchElementException, IllegalArgumentException {
        needPoint(point);
        if (g < 2 || g > 4) {
            throw new IllegalArgumentException();
        }
        return drawer.onSquare(card.scheme, g)[point + 1];
    }

    public int plane(int q, int point) throws NoSuchElementException, IllegalArgumentException {
        if (point != NONE) {
            needPoint(point);
        }
        if (q < 2 || q > 3) {
            throw new IllegalArgumentException();
        }
        return drawer.inPlane(card.scheme, q)[point + 1];
    }

    public int set(int what) throws NoSuchElementException {
        switch (what) {
            case 0: return sets.cover(card.scheme);
            case 1: return sets.cap(card.scheme);
            case 2: return sets.halves(card.scheme);
            case 3: return sets.firstHalf(card.scheme);
            case 4: return sets.spreads(card.scheme);
            case 5: return sets.leastSpread(card.scheme);
            default: throw new NoSuchElementException();
        }
    }

    public int far(int point, int other) throws NoSuchElementException {
        needPoint(point);
        needPoint(other);
        return card.scheme.steps(1 << point, 1 << other, NONE);
    }

    public int game(int what) throws NoSuchElementException {
        if (what < 0 || what > 1) {
            throw new NoSuchElementException();
        }
        return player.solved(card.scheme)[what];
    }

    public int years(int seed, int n, int what) throws NoSuchElementException, IllegalArgumentException {
        if (what < 0 || what > 2) {
            throw new NoSuchElementException();
        }
        if (n < 0 || n > MOST_YEARS) {
            throw new IllegalArgumentException();
        }
        course.run(card.scheme, seed, n);
        switch (what) {
            case 0: return course.lines;
            case 1: return Scheme.trianglesOf(course.row, course.lines);
            default: return course.added;
        }
    }

    public void image() {
        kept = new Image(card, shelves, lastAct, keptActs, refusedTexts, refusedActs);
    }

    public boolean restore() {
        if (kept == null) {
            return false;
        }
        card = kept.card;
        for (int i = 0; i < SHELF_COUNT; i++) {
            shelves[i] = kept.shelves[i];
        }
        lastAct = kept.lastAct;
        keptActs = kept.keptActs;
        refusedTexts = kept.refusedTexts;
        refusedActs = kept.refusedActs;
        return true;
    }

    private void spool(int number) {
        for (int shift = 24; shift >= 0; shift -= 8) {
            tape[tapeLength] = number >>> shift & 255;
            tapeLength++;
        }
    }

    private boolean isPoint(int point) {
        return point >= 0 && point < card.scheme.points;
    }

    private static boolean isPlace(int x) {
        return x >= -FARTHEST_AT && x <= FARTHEST_AT;
    }

    private void needPoint(int point) {
        if (!isPoint(point)) {
            throw new NoSuchElementException();
        }
    }

    private void needLine(int line) {
        if (line < 0 || line >= card.scheme.lines) {
            throw new NoSuchElementException();
        }
    }

    private static void needUnlike(int one, int other) {
        if (one == other) {
            throw new IllegalArgumentException();
        }
    }

    private Scheme needShelved(int shelf) {
        if (shelf < 0 || shelf >= SHELF_COUNT || shelves[shelf] == null) {
            throw new NoSuchElementException();
        }
        return shelves[shelf].scheme;
    }

    private int refuse() {
        refusedActs++;
        return NONE;
    }

    private void change(Card next) {
        remember(NONE, card);
        card = next;
    }

    private void remember(int shelf, Card before) {
        lastAct = new Act(lastAct, shelf, before);
        keptActs = Math.min(keptActs + 1, MOST_ACTS);
    }

    /** Points and lines without places; never changed, so that what was found out about one stays true. */
    private static final class Scheme {
        final int points;
        final int lines;
        final int[] row;
        /** How many points each line has, and the least of them. */
        final int[] size;
        final int[] first;
        /** How many lines go through each point, and which ones. */
        final int[] degree = new int[MOST_POINTS];
        final int[] on = new int[MOST_POINTS];
        /** The line of two points p and q at 8 p + q; NONE without, and for p = q. */
        final int[] join = new int[MOST_POINTS * MOST_POINTS];

        /** What the helpers found out, kept here so that it is found once; null before. */
        int[] orders = null;
        final int[] orbit = new int[MOST_POINTS];
        int[] leastRow = null;
        int[] solved = null;
        final int[][] drawn = new int[Drawer.BOARDS][];
        private int[] twinsFound = null;
        private Scheme turnedOne = null;

        Scheme(int points, int[] numbers, int lines) {
            this.points = points;
            this.lines = lines;
            this.row = Arrays.copyOf(numbers, lines);
            this.size = new int[lines];
            this.first = new int[lines];
            Arrays.fill(join, NONE);
            for (int i = 0; i < lines; i++) {
                for (int p = 0; p < points; p++) {
                    if ((row[i] >> p & 1) != 0) {
                        addFlag(i, p);
                    }
                }
            }
        }

        private void addFlag(int line, int p) {
            if (size[line] == 0) {
                first[line] = p;
            }
            size[line]++;
            degree[p]++;
            on[p] |= 1 << line;
            for (int q = 0; q < p; q++) {
                if ((row[line] >> q & 1) != 0) {
                    join[p * MOST_POINTS + q] = line;
                    join[q * MOST_POINTS + p] = line;
                }
            }
        }

        Scheme withPoints(int number) {
            return new Scheme(number, row, lines);
        }

        boolean canTake(int line) {
            if (line < 0 || line >>> points != 0 || lines >= MOST_LINES) {
                return false;
            }
            int many = Integer.bitCount(line);
            return many >= LEAST_ON_LINE && many <= MOST_ON_LINE && keepsApart(line, row, lines);
        }

        /** Whether a line has one point at most in common with each of some others. */
        static boolean keepsApart(int line, int[] others, int many) {
            for (int i = 0; i < many; i++) {
                if (Integer.bitCount(line & others[i]) > 1) {
                    return false;
                }
            }
            return true;
        }

        int firstSize() {
            return lines == 0 ? 0 : size[0];
        }

        int flags() {
            int sum = 0;
            for (int i = 0; i < lines; i++) {
                sum += size[i];
            }
            return sum;
        }

        boolean isRegular() {
            for (int p = 1; p < points; p++) {
                if (degree[p] != degree[0]) {
                    return false;
                }
            }
            for (int i = 1; i < lines; i++) {
                if (size[i] != size[0]) {
                    return false;
                }
            }
            return true;
        }

        int joinedPairs() {
            int sum = 0;
            for (int i = 0; i < lines; i++) {
                sum += size[i] * (size[i] - 1) / 2;
            }
            return sum;
        }

        int triangles() {
            return trianglesOf(row, lines);
        }

        static int trianglesOf(int[] row, int lines) {
            int sum = 0;
            for (int a = 0; a < lines; a++) {
                for (int b = a + 1; b < lines; b++) {
                    for (int c = b + 1; c < lines; c++) {
                        if (isTriangle(row[a], row[b], row[c])) {
                            sum++;
                        }
                    }
                }
            }
            return sum;
        }

        private static boolean isTriangle(int a, int b, int c) {
            return (a & b) != 0 && (a & c) != 0 && (b & c) != 0 && (a & b & c) == 0;
        }

        int fours() {
            int sum = 0;
            for (int a = 0; a < lines; a++) {
                for (int b = a + 1; b < lines; b++) {
                    for (int c = b + 1; c < lines; c++) {
                        if (isTriangle(row[a], row[b], row[c])) {
                            sum += foursOf(a, b, c);
                        }
                    }
                }
            }
            return sum;
        }

        /** A fourth line must make a triangle with each two of three; the six points are unlike then. */
        private int foursOf(int a, int b, int c) {
            int sum = 0;
            for (int d = c + 1; d < lines; d++) {
                if (isTriangle(row[a], row[b], row[d]) && isTriangle(row[a], row[c], row[d])
                        && isTriangle(row[b], row[c], row[d])) {
                    sum++;
                }
            }
            return sum;
        }

        int apart() {
            int sum = 0;
            for (int a = 0; a < lines; a++) {
                for (int b = a + 1; b < lines; b++) {
                    if ((row[a] & row[b]) == 0) {
                        sum++;
                    }
                }
            }
            return sum;
        }

        /** By how many lines, without the barred one, some points come to one of the wanted ones. */
        int steps(int start, int wanted, int barred) {
            int reached = start;
            for (int taken = 0; taken <= MOST_POINTS; taken++) {
                if ((reached & wanted) != 0) {
                    return taken;
                }
                reached = spreadOut(reached, barred);
            }
            return NONE;
        }

        private int spreadOut(int reached, int barred) {
            int next = reached;
            for (int i = 0; i < lines; i++) {
                if (i != barred && (row[i] & reached) != 0) {
                    next |= row[i];
                }
            }
            return next;
        }

        int piece(int point) {
            int reached = 1 << point;
            for (int i = 0; i < MOST_POINTS; i++) {
                reached = spreadOut(reached, NONE);
            }
            return reached;
        }

        int pieces() {
            int sum = 0;
            int seen = 0;
            for (int p = 0; p < points; p++) {
                if ((seen >> p & 1) == 0) {
                    sum++;
                    seen |= piece(p);
                }
            }
            return sum;
        }

        /** The least ring has a line and, from one of its points to another, the shortest way round it. */
        int girth() {
            int best = NONE;
            for (int i = 0; i < lines; i++) {
                for (int p = 0; p < points; p++) {
                    if ((row[i] >> p & 1) != 0) {
                        int around = steps(1 << p, row[i] & ~(1 << p), i);
                        if (around != NONE && (best == NONE || around + 1 < best)) {
                            best = around + 1;
                        }
                    }
                }
            }
            return best;
        }

        /** The dual; null if there is none. */
        Scheme turned() {
            if (turnedOne == null && lines >= 1 && lines <= MOST_POINTS) {
                turnedOne = makeTurned();
            }
            return turnedOne;
        }

        private Scheme makeTurned() {
            int[] numbers = new int[MOST_POINTS];
            int many = 0;
            for (int p = 0; p < points; p++) {
                if (degree[p] > MOST_ON_LINE) {
                    return null;
                }
                if (degree[p] >= LEAST_ON_LINE) {
                    numbers[many] = on[p];
                    many++;
                }
            }
            return new Scheme(lines, numbers, many);
        }

        /** For each point those with which it can change places, all else staying, and the lines are the same. */
        int[] twins() {
            if (twinsFound == null) {
                int[] found = new int[MOST_POINTS];
                for (int p = 0; p < points; p++) {
                    for (int q = 0; q < p; q++) {
                        if (areTwins(p, q)) {
                            found[p] |= 1 << q;
                            found[q] |= 1 << p;
                        }
                    }
                }
                twinsFound = found;
            }
            return twinsFound;
        }

        private boolean areTwins(int p, int q) {
            if (degree[p] != degree[q]) {
                return false;
            }
            int both = 1 << p | 1 << q;
            for (int i = 0; i < lines; i++) {
                if ((row[i] & both) == 1 << p && !isLine(row[i] ^ both)) {
                    return false;
                }
            }
            return true;
        }

        private boolean isLine(int number) {
            for (int i = 0; i < lines; i++) {
                if (row[i] == number) {
                    return true;
                }
            }
            return false;
        }
    }

    /** A scheme and where its points lie; never changed, so that acts, shelves and the image may share it. */
    private static final class Card {
        final Scheme scheme;
        final int[] xs;
        final int[] ys;

        Card(Scheme scheme, int[] xs, int[] ys) {
            this.scheme = scheme;
            this.xs = xs;
            this.ys = ys;
        }

        Card with(Scheme other) {
            return new Card(other, xs, ys);
        }

        Card placed(int point, int x, int y) {
            int[] newXs = xs.clone();
            int[] newYs = ys.clone();
            newXs[point] = x;
            newYs[point] = y;
            return new Card(scheme, newXs, newYs);
        }

        Card swapped(int point, int other) {
            int both = 1 << point | 1 << other;
            int[] numbers = scheme.row.clone();
            for (int i = 0; i < scheme.lines; i++) {
                int common = numbers[i] & both;
                if (common != 0 && common != both) {
                    numbers[i] ^= both;
                }
            }
            Card next = placed(point, xs[other], ys[other]).placed(other, xs[point], ys[point]);
            return next.with(new Scheme(scheme.points, numbers, scheme.lines));
        }

        /** Without the last point; its place is cleared, for a point that comes later lies at 0, 0. */
        Card shrunk() {
            int last = scheme.points - 1;
            int[] numbers = new int[MOST_LINES];
            int many = 0;
            for (int i = 0; i < scheme.lines; i++) {
                if ((scheme.row[i] >> last & 1) == 0) {
                    numbers[many] = scheme.row[i];
                    many++;
                }
            }
            return placed(last, 0, 0).with(new Scheme(last, numbers, many));
        }

        int slips() {
            int sum = 0;
            for (int i = 0; i < scheme.lines; i++) {
                if (isSlip(scheme.row[i])) {
                    sum++;
                }
            }
            return sum;
        }

        private boolean isSlip(int line) {
            for (int p = 0; p < scheme.points; p++) {
                for (int q = 0; q < p; q++) {
                    if ((line >> p & line >> q & 1) != 0 && (sameAt(p, q) || leavesOut(line, p, q))) {
                        return true;
                    }
                }
            }
            return false;
        }

        private boolean sameAt(int p, int q) {
            return xs[p] == xs[q] && ys[p] == ys[q];
        }

        private boolean leavesOut(int line, int p, int q) {
            for (int r = 0; r < q; r++) {
                if ((line >> r & 1) != 0 && !inLine(p, q, r)) {
                    return true;
                }
            }
            return false;
        }

        private boolean inLine(int p, int q, int r) {
            return (xs[q] - xs[p]) * (ys[r] - ys[p]) == (xs[r] - xs[p]) * (ys[q] - ys[p]);
        }

        int strays() {
            int sum = 0;
            for (int p = 0; p < scheme.points; p++) {
                for (int q = 0; q < p; q++) {
                    int line = scheme.join[p * MOST_POINTS + q];
                    int told = line == NONE ? 0 : scheme.row[line];
                    for (int r = 0; r < q; r++) {
                        if ((told >> r & 1) == 0 && inLine(p, q, r)) {
                            sum++;
                        }
                    }
                }
            }
            return sum;
        }
    }

    /** What was there before an act: on a shelf, or (shelf NONE) as the scheme itself. */
    private static final class Act {
        final Act earlier;
        final int shelf;
        final Card before;

        Act(Act earlier, int shelf, Card before) {
            this.earlier = earlier;
            this.shelf = shelf;
            this.before = before;
        }
    }

    private static final class Image {
        final Card card;
        final Card[] shelves = new Card[SHELF_COUNT];
        final Act lastAct;
        final int keptActs;
        final int refusedTexts;
        final int refusedActs;

        Image(Card card, Card[] shelved, Act lastAct, int keptActs, int refusedTexts, int refusedActs) {
            this.card = card;
            for (int i = 0; i < SHELF_COUNT; i++) {
                this.shelves[i] = shelved[i];
            }
            this.lastAct = lastAct;
            this.keptActs = keptActs;
            this.refusedTexts = refusedTexts;
            this.refusedActs = refusedActs;
        }
    }

    /** Reads a text; what it tells, or its first fault. */
    private static final class Reader {
        private static final int END = 0;
        private static final int POINTS = 1;
        private static final int LINE = 2;
        private static final int AT = 3;
        private static final int NUMBER = 4;
        private static final int CLOSE = 5;
        private static final int MINUS = 6;
        private static final int OTHER = 7;
        /** The value of a number of two digits or more, whatever they are. */
        private static final int TOO_LONG = 10;

        private static final int MISPLACED = 1;
        private static final int TOO_MUCH = 2;
        private static final int NO_POINT = 3;
        private static final int POINTS_LATE = 4;
        private static final int COMMON = 5;

        private int[] text = new int[0];
        private int length = 0;
        private int next = 0;
        private int kind = END;
        private int start = 0;
        private int value = 0;
        private boolean begun = false;
        private int points = FIRST_POINTS;
        private int lines = 0;
        private final int[] row = new int[MOST_LINES];
        private final int[] xs = new int[MOST_POINTS];
        private final int[] ys = new int[MOST_POINTS];
        private int code = 0;
        int place = NONE;

        /** 0, or the fault, whose place is kept; size is at most the number of bytes. */
        int read(int[] bytes, int size) {
            text = bytes;
            length = size;
            next = 0;
            begun = false;
            points = FIRST_POINTS;
            lines = 0;
            code = 0;
            Arrays.fill(xs, 0);
            Arrays.fill(ys, 0);
            for (int clauses = 0; clauses <= MOST_BYTES; clauses++) {
                step();
                if (kind == END || !readClause()) {
                    return code;
                }
                begun = true;
            }
            return code;
        }

        Card told() {
            return new Card(new Scheme(points, row, lines), xs.clone(), ys.clone());
        }

        private boolean readClause() {
            switch (kind) {
                case POINTS: return readPoints();
                case LINE: return readLine();
                case AT: return readAt();
                default: return fail(MISPLACED);
            }
        }

        private boolean fail(int found) {
            code = found;
            place = start;
            return false;
        }

        private boolean readPoints() {
            if (begun) {
                return fail(POINTS_LATE);
            }
            if (!readNumber()) {
                return false;
            }
            if (value < 1 || value > MOST_POINTS) {
                return fail(TOO_MUCH);
            }
            points = value;
            return readClose();
        }

        private boolean readLine() {
            if (lines >= MOST_LINES) {
                return fail(TOO_MUCH);
            }
            int line = 0;
            for (int many = 0; many < MOST_ON_LINE; many++) {
                step();
                if (many >= LEAST_ON_LINE && kind == CLOSE) {
                    return keepLine(line);
                }
                if (!isNumber() || !isPointThere()) {
                    return false;
                }
                if ((line >> value & 1) != 0) {
                    return fail(COMMON);
                }
                line |= 1 << value;
            }
            return readClose() && keepLine(line);
        }

        private boolean keepLine(int line) {
            if (!Scheme.keepsApart(line, row, lines)) {
                return fail(COMMON);
            }
            row[lines] = line;
            lines++;
            return true;
        }

        private boolean readAt() {
            if (!readNumber() || !isPointThere()) {
                return false;
            }
            int point = value;
            if (!readSigned()) {
                return false;
            }
            xs[point] = value;
            if (!readSigned()) {
                return false;
            }
            ys[point] = value;
            return readClose();
        }

        private boolean readSigned() {
            step();
            if (kind != MINUS) {
                return isNumber();
            }
            step();
            if (!isNumber()) {
                return false;
            }
            value = -value;
            return true;
        }

        private boolean readNumber() {
            step();
            return isNumber();
        }

        private boolean isNumber() {
            if (kind != NUMBER) {
                return fail(MISPLACED);
            }
            return value < TOO_LONG || fail(TOO_MUCH);
        }

        private boolean isPointThere() {
            return value < points || fail(NO_POINT);
        }

        private boolean readClose() {
            step();
            return kind == CLOSE || fail(MISPLACED);
        }

        /** Goes on by one token. */
        private void step() {
            next = pastBlanks(next);
            start = next;
            if (next >= length) {
                kind = END;
                return;
            }
            int first = text[next];
            if (isLetter(first)) {
                next = pastLetters(next);
                kind = isWord("points") ? POINTS : isWord("line") ? LINE : isWord("at") ? AT : OTHER;
            } else if (isDigit(first)) {
                next = pastDigits(next);
                kind = NUMBER;
                value = next - start > 1 ? TOO_LONG : first - '0';
            } else {
                next++;
                kind = first == ';' ? CLOSE : first == '-' ? MINUS : OTHER;
            }
        }

        private int pastBlanks(int from) {
            int i = from;
            while (i < length && (text[i] == 32 || text[i] == 10)) {
                i++;
            }
            return i;
        }

        private int pastLetters(int from) {
            int i = from;
            while (i < length && isLetter(text[i])) {
                i++;
            }
            return i;
        }

        private int pastDigits(int from) {
            int i = from;
            while (i < length && isDigit(text[i])) {
                i++;
            }
            return i;
        }

        private static boolean isLetter(int sign) {
            return sign >= 'a' && sign <= 'z';
        }

        private static boolean isDigit(int sign) {
            return sign >= '0' && sign <= '9';
        }

        private boolean isWord(String word) {
            if (next - start != word.length()) {
                return false;
            }
            for (int i = 0; i < word.length(); i++) {
                if (text[start + i] != word.charAt(i)) {
                    return false;
                }
            }
            return true;
        }
    }

    /** Names the points of one scheme by those of another one: symmetries, dualities, ways. */
    private static final class Matcher {
        private Scheme from = null;
        private Scheme to = null;
        private int[] fromTwins = null;
        private int[] toTwins = null;
        /** Whether lines become lines (and points that aren't joined stay so), or only lie within some. */
        private boolean exact = true;
        private final int[] named = new int[MOST_POINTS];

        /** The latest symmetry that was asked for. */
        private Scheme symmetricOf = null;
        private int symmetricAt = NONE;
        private final int[] symmetricNow = new int[MOST_POINTS];

        /** The latest two schemes of which the one was looked for in the other. */
        private Scheme withinFrom = null;
        private Scheme withinTo = null;
        private int withinMany = 0;
        private final int[] withinFirst = new int[MOST_POINTS];

        private void begin(Scheme one, Scheme other, boolean exactly) {
            from = one;
            to = other;
            fromTwins = one.twins();
            toTwins = other.twins();
            exact = exactly;
        }

        /** At p how many symmetries leave all points below p, at 0 all; found from the last point down. */
        int[] measured(Scheme scheme) {
            if (scheme.orders == null) {
                int[] orders = new int[MOST_POINTS + 1];
                Arrays.fill(orders, 1);
                for (int p = 0; p < MOST_POINTS; p++) {
                    scheme.orbit[p] = p;
                }
                begin(scheme, scheme, true);
                for (int p = scheme.points - 1; p >= 0; p--) {
                    orders[p] = orders[p + 1] * moves(p, scheme.orbit);
                }
                scheme.orders = orders;
            }
            return scheme.orders;
        }

        /** Of each point the least that it becomes. */
        int[] orbitsOf(Scheme scheme) {
            measured(scheme);
            return scheme.orbit;
        }

        int orbits(Scheme scheme) {
            int[] orbit = orbitsOf(scheme);
            int sum = 0;
            for (int p = 0; p < scheme.points; p++) {
                if (orbit[p] == p) {
                    sum++;
                }
            }
            return sum;
        }

        /** How many points p becomes while all below it stay; one symmetry for each of them makes the orbits. */
        private int moves(int p, int[] orbit) {
            int many = 1;
            for (int q = 0; q < p; q++) {
                named[q] = q;
            }
            int below = (1 << p) - 1;
            for (int v = p + 1; v < from.points; v++) {
                if ((fromTwins[p] >> v & 1) != 0) {
                    many++;
                    unite(orbit, p, v);
                } else if (fit(p, v, 0) != NONE) {
                    named[p] = v;
                    if (finish(p + 1, below | 1 << v, 0)) {
                        many++;
                        uniteNamed(orbit);
                    }
                }
            }
            return many;
        }

        private void uniteNamed(int[] orbit) {
            for (int p = 0; p < from.points; p++) {
                unite(orbit, p, named[p]);
            }
        }

        private static void unite(int[] orbit, int p, int q) {
            int low = Math.min(orbit[p], orbit[q]);
            int high = Math.max(orbit[p], orbit[q]);
            for (int i = 0; i < MOST_POINTS; i++) {
                if (orbit[i] == high) {
                    orbit[i] = low;
                }
            }
        }

        /** What a point becomes by the i-th of the symmetries, which has to be there. */
        int symmetric(Scheme scheme, int i, int point) {
            if (symmetricOf != scheme || symmetricAt != i) {
                findSymmetric(scheme, measured(scheme), i);
                symmetricOf = scheme;
                symmetricAt = i;
            }
            return symmetricNow[point];
        }

        /** Each name that a point can get leaves as many symmetries, so that the index tells name by name. */
        private void findSymmetric(Scheme scheme, int[] orders, int i) {
            begin(scheme, scheme, true);
            int left = i;
            int used = 0;
            for (int p = 0; p < scheme.points; p++) {
                int each = Math.max(orders[p + 1], 1);
                int v = nameAfter(p, used, left / each);
                left %= each;
                used |= 1 << v;
                named[p] = v;
            }
            System.arraycopy(named, 0, symmetricNow, 0, MOST_POINTS);
        }

        /** The name of p, after some that are skipped, by which the names so far can be finished. */
        private int nameAfter(int p, int used, int skipped) {
            int seen = 0;
            for (int v = 0; v < to.points; v++) {
                if ((used >> v & 1) == 0 && fit(p, v, 0) != NONE) {
                    named[p] = v;
                    if (finish(p + 1, used | 1 << v, 0)) {
                        if (seen == skipped) {
                            return v;
                        }
                        seen++;
                    }
                }
            }
            return 0;
        }

        /** If there is one way, each symmetry behind it makes another one, and there are no more. */
        int likeWays(Scheme one, Scheme other) {
            if (one.points != other.points || one.lines != other.lines) {
                return 0;
            }
            begin(one, other, true);
            return finish(0, 0, 0) ? measured(other)[0] : 0;
        }

        /** A duality names the points by those of the dual, as long as that has lost no line. */
        int dualities(Scheme scheme) {
            Scheme turned = scheme.turned();
            return turned == null || scheme.points != scheme.lines ? 0 : likeWays(scheme, turned);
        }

        int polarities(Scheme scheme) {
            Scheme turned = scheme.turned();
            if (turned == null || scheme.points != scheme.lines || turned.lines != scheme.lines) {
                return 0;
            }
            begin(scheme, turned, true);
            return polaritiesFrom(0, 0);
        }

        private int polaritiesFrom(int p, int used) {
            if (p >= from.points) {
                return 1;
            }
            int sum = 0;
            for (int v = 0; v < to.points; v++) {
                if ((used >> v & 1) == 0 && isMutual(p, v) && fit(p, v, 0) != NONE) {
                    named[p] = v;
                    sum += polaritiesFrom(p + 1, used | 1 << v);
                }
            }
            return sum;
        }

        /** Whether p is on the line of each earlier point just if that is on the line of p. */
        private boolean isMutual(int p, int line) {
            for (int q = 0; q < p; q++) {
                if ((from.row[named[q]] >> p & 1) != (from.row[line] >> q & 1)) {
                    return false;
                }
            }
            return true;
        }

        int withinWays(Scheme one, Scheme other) {
            if (withinFrom != one || withinTo != other) {
                begin(one, other, false);
                withinMany = one.points > other.points || one.lines > other.lines ? 0 : tally(0, 0, 0) * twinOrders();
                if (withinMany != 0 && finish(0, 0, 0)) {
                    System.arraycopy(named, 0, withinFirst, 0, MOST_POINTS);
                }
                withinFrom = one;
                withinTo = other;
            }
            return withinMany;
        }

        int firstWithin(Scheme one, Scheme other, int point) {
            return withinWays(one, other) == 0 ? NONE : withinFirst[point];
        }

        /** In how many orders twins can be named: so many ways there are for each one of the tally. */
        private int twinOrders() {
            int product = 1;
            for (int p = 0; p < from.points; p++) {
                product *= 1 + Integer.bitCount(fromTwins[p] & (1 << p) - 1);
            }
            return product;
        }

        /** The ways, of those that differ by twins alone only the one that names them rising. */
        private int tally(int p, int used, int lines) {
            if (p >= from.points) {
                return 1;
            }
            int sum = 0;
            for (int v = leastName(p); v < to.points; v++) {
                if ((used >> v & 1) == 0) {
                    int more = fit(p, v, lines);
                    if (more != NONE) {
                        named[p] = v;
                        sum += tally(p + 1, used | 1 << v, more);
                    }
                }
            }
            return sum;
        }

        private int leastName(int p) {
            for (int q = p - 1; q >= 0; q--) {
                if ((fromTwins[p] >> q & 1) != 0) {
                    return named[q] + 1;
                }
            }
            return 0;
        }

        /** Finds the first names for p and all behind it; a twin of a name that failed fails too. */
        private boolean finish(int p, int used, int lines) {
            if (p >= from.points) {
                return true;
            }
            int failed = 0;
            for (int v = 0; v < to.points; v++) {
                if ((used >> v & 1) == 0 && (toTwins[v] & failed) == 0) {
                    int more = fit(p, v, lines);
                    if (more != NONE) {
                        named[p] = v;
                        if (finish(p + 1, used | 1 << v, more)) {
                            return true;
                        }
                    }
                    failed |= 1 << v;
                }
            }
            return false;
        }

        /** Whether p can be v beside the names before it: the lines that are taken then; NONE if not. */
        private int fit(int p, int v, int lines) {
            if (exact && from.degree[p] != to.degree[v]) {
                return NONE;
            }
            int below = (1 << p) - 1;
            int taken = lines;
            for (int q = 0; q < p; q++) {
                int line = from.join[p * MOST_POINTS + q];
                int other = to.join[v * MOST_POINTS + named[q]];
                if (line == NONE ? exact && other != NONE : other == NONE || !holds(other, line)) {
                    return NONE;
                }
                if (line != NONE && to.join[v * MOST_POINTS + named[from.first[line]]] != other) {
                    return NONE;
                }
                if (line != NONE && (from.row[line] & below) == 1 << q) {
                    // Here the line gets its second point, so that from now on the other one is its own.
                    if ((taken >> other & 1) != 0) {
                        return NONE;
                    }
                    taken |= 1 << other;
                }
            }
            return taken;
        }

        private boolean holds(int other, int line) {
            return exact ? to.size[other] == from.size[line] : to.size[other] >= from.size[line];
        }
    }

    /** The least row of lines that a scheme has by whatever names, and the list of such rows of triples. */
    private static final class Least {
        static final int FEWEST = 3;
        static final int WIDEST = 7;
        static final int LONGEST = 7;
        private static final int ON_TRIPLE = 3;
        private static final int KEY_BITS = 7;

        private Scheme scheme = null;
        private int[] twins = null;
        /** Of each new name the lines that end with it, as a number that is greater for a lesser row. */
        private final long[] mine = new long[MOST_POINTS];
        private final long[] best = new long[MOST_POINTS];
        private boolean beaten = false;
        private boolean untilBeaten = false;
        /** The lines' numbers by the new names given so far, 12 for each depth. */
        private final int[] partial = new int[MOST_LINES * (MOST_POINTS + 1)];
        private final int[] bestRow = new int[MOST_LINES];
        private final int[] ended = new int[MOST_LINES];

        private final int[][] rows = new int[LONGEST + 1][];
        private final int[] many = new int[LONGEST + 1];
        private int ready = NONE;

        int[] leastRow(Scheme wanted) {
            if (wanted.leastRow == null) {
                begin(wanted, false);
                Arrays.fill(best, NONE);
                descend(0, 0, false);
                int[] found = Arrays.copyOf(bestRow, wanted.lines);
                sortUp(found, wanted.lines);
                wanted.leastRow = found;
            }
            return wanted.leastRow;
        }

        private void begin(Scheme wanted, boolean onlyWhether) {
            scheme = wanted;
            twins = wanted.twins();
            untilBeaten = onlyWhether;
            beaten = false;
        }

        private static void sortUp(int[] numbers, int size) {
            for (int i = 1; i < size; i++) {
                int number = numbers[i];
                int at = i;
                while (at > 0 && numbers[at - 1] > number) {
                    numbers[at] = numbers[at - 1];
                    at--;
                }
                numbers[at] = number;
            }
        }

        /** Whether a scheme with rising lines is the least by its own names. */
        private boolean isLeast(Scheme wanted) {
            begin(wanted, true);
            for (int p = 0; p < wanted.points; p++) {
                best[p] = keyOf(p, (1 << p) - 1, p);
                rename(p, p);
            }
            descend(0, 0, false);
            return !beaten;
        }

        /** Gives the name depth to each point that makes the least row; ahead: the row is less already. */
        private void descend(int depth, int used, boolean ahead) {
            if (depth >= scheme.points) {
                if (ahead) {
                    keepBest();
                }
                return;
            }
            long top = NONE;
            int equal = 0;
            for (int p = 0; p < scheme.points; p++) {
                if (isFirstTwin(p, used)) {
                    long key = keyOf(p, used, depth);
                    if (key > top) {
                        top = key;
                        equal = 0;
                    }
                    if (key == top) {
                        equal |= 1 << p;
                    }
                }
            }
            if (!ahead && top < best[depth]) {
                return;
            }
            follow(depth, used, equal, top, ahead || top > best[depth]);
        }

        /** Behind the first of equal points the best row begins as this one, so that the next ones aren't ahead. */
        private void follow(int depth, int used, int equal, long top, boolean ahead) {
            if (ahead && untilBeaten) {
                beaten = true;
                return;
            }
            boolean stillAhead = ahead;
            mine[depth] = top;
            for (int p = 0; p < scheme.points && !(beaten && untilBeaten); p++) {
                if ((equal >> p & 1) != 0) {
                    rename(p, depth);
                    descend(depth + 1, used | 1 << p, stillAhead);
                    stillAhead = false;
                }
            }
        }

        private boolean isFirstTwin(int p, int used) {
            return (used >> p & 1) == 0 && (twins[p] & (1 << p) - 1 & ~used) == 0;
        }

        private void rename(int p, int depth) {
            int here = depth * MOST_LINES;
            for (int i = 0; i < scheme.lines; i++) {
                int bit = (scheme.row[i] >> p & 1) << depth;
                partial[here + MOST_LINES + i] = depth == 0 ? bit : partial[here + i] | bit;
            }
        }

        private void keepBest() {
            System.arraycopy(mine, 0, best, 0, MOST_POINTS);
            System.arraycopy(partial, scheme.points * MOST_LINES, bestRow, 0, MOST_LINES);
        }

        /** The lines that are whole with p: their other names sorted, the first ones weighing most. */
        private long keyOf(int p, int used, int depth) {
            int size = 0;
            for (int i = 0; i < scheme.lines; i++) {
                if ((scheme.row[i] & ~used) == 1 << p) {
                    ended[size] = partial[depth * MOST_LINES + i];
                    size++;
                }
            }
            if (size == 0) {
                return 0;
            }
            sortUp(ended, size);
            long key = 0;
            for (int i = 0; i < MOST_POINTS - 1; i++) {
                key = key << KEY_BITS | (i < size ? (1 << KEY_BITS) - ended[i] : 0);
            }
            return key;
        }

        /** How many of the prepared rows have no point beyond some. */
        int listed(int points, int lines) {
            int sum = 0;
            for (int i = 0; i < many[lines]; i++) {
                if (isWithin(points, lines, i)) {
                    sum++;
                }
            }
            return sum;
        }

        /** Where the i-th of the list begins among the rows; NONE: there is none. */
        int startOf(int points, int lines, int i) {
            int seen = 0;
            for (int k = 0; k < many[lines]; k++) {
                if (isWithin(points, lines, k)) {
                    if (seen == i) {
                        return k * lines;
                    }
                    seen++;
                }
            }
            return NONE;
        }

        int listedNumber(int lines, int at) {
            int[] row = rows[lines];
            return row == null || at < 0 || at >= row.length ? NONE : row[at];
        }

        /** A least row has no gap between its points, so that those of fewer points are among those of 7. */
        private boolean isWithin(int points, int lines, int i) {
            for (int j = 0; j < lines; j++) {
                if (listedNumber(lines, i * lines + j) >>> points != 0) {
                    return false;
                }
            }
            return true;
        }

        void prepare(int lines) {
            for (int m = ready + 1; m <= lines; m++) {
                if (m == 0) {
                    rows[0] = new int[0];
                    many[0] = 1;
                } else {
                    lengthen(m);
                }
                ready = m;
            }
        }

        /** A least row without its last line is a least row, so that each comes from a shorter one. */
        private void lengthen(int lines) {
            int[] row = new int[lines];
            int[] found = new int[0];
            int size = 0;
            for (int k = 0; k < many[lines - 1]; k++) {
                for (int j = 0; j + 1 < lines; j++) {
                    row[j] = listedNumber(lines - 1, k * (lines - 1) + j);
                }
                int last = lines < 2 ? 0 : row[lines - 2];
                for (int number = last + 1; number < 1 << WIDEST; number++) {
                    row[lines - 1] = number;
                    if (Integer.bitCount(number) == ON_TRIPLE && Scheme.keepsApart(number, row, lines - 1)
                            && isLeast(new Scheme(WIDEST, row, lines))) {
                        found = Arrays.copyOf(found, size + lines);
                        System.arraycopy(row, 0, found, size, lines);
                        size += lines;
                    }
                }
            }
            rows[lines] = found;
            many[lines] = lines == 0 ? 0 : size / lines;
        }
    }

    /** Draws a scheme on boards of places: squares, and the planes of 2 and 3. */
    private static final class Drawer {
        static final int BOARDS = 5;
        private static final int MOST_PLACES = 16;
        private static final int SQUARES_FROM = -2;
        private static final int PLANES_FROM = 1;

        private final int[][] lineOf = new int[BOARDS][];
        private final int[] first = new int[MOST_PLACES];
        private final int[] second = new int[MOST_PLACES];
        private final int[] third = new int[MOST_PLACES];
        private int places = 0;

        private int points = 0;
        private int[] through = null;
        private int[] twins = null;
        /** From this point on twins get rising places alone. */
        private int twinsFrom = 0;
        private boolean all = false;
        /** At 8 p + q the points of the line of p and q, if it has more than these two. */
        private final int[] told = new int[MOST_POINTS * MOST_POINTS];
        private final int[] seat = new int[MOST_POINTS];
        /** The places that points behind p may still have at 8 p and on. */
        private final int[] room = new int[MOST_POINTS * (MOST_POINTS + 1)];
        private int[] found = null;

        /** At 0 whether it can be (1), behind it the place of each point, NONE if it can't be. */
        int[] onSquare(Scheme wanted, int g) {
            int board = g + SQUARES_FROM;
            int[] drawn = wanted.drawn[board];
            if (drawn == null) {
                places = g * g;
                if (lineOf[board] == null) {
                    markSquare(g);
                    lineOf[board] = linesOfPlaces(0);
                }
                prepare(wanted, lineOf[board]);
                twinsFrom = 0;
                all = false;
                room[0] = cornerPart(g);
                found[0] = seatFrom(0);
                drawn = found;
                wanted.drawn[board] = drawn;
            }
            return drawn;
        }

        /** A square can be turned and mirrored so that the first point is in this part, and nowhere is it earlier. */
        private static int cornerPart(int g) {
            int part = 0;
            for (int y = 0; y < g; y++) {
                for (int x = y; 2 * x < g; x++) {
                    part |= 1 << g * y + x;
                }
            }
            return part;
        }

        /** At 0 in how many ways, behind it the place of each point in the first one, NONE without. */
        int[] inPlane(Scheme wanted, int q) {
            int board = q + PLANES_FROM;
            int[] drawn = wanted.drawn[board];
            if (drawn == null) {
                places = q * q + q + 1;
                if (lineOf[board] == null) {
                    markPlane(q);
                    lineOf[board] = linesOfPlaces(q);
                }
                prepare(wanted, lineOf[board]);
                twinsFrom = 2;
                all = true;
                room[0] = 1;
                room[1] = 2;
                found[0] = seatFrom(0) * sameWays();
                drawn = found;
                wanted.drawn[board] = drawn;
            }
            return drawn;
        }

        /** A plane looks the same from each two of its places, and twins can be put in any order. */
        private int sameWays() {
            int same = points > 1 ? places * (places - 1) : places;
            for (int p = twinsFrom; p < points; p++) {
                same *= 1 + Integer.bitCount(twins[p] & (1 << p) - (1 << twinsFrom));
            }
            return same;
        }

        private void prepare(Scheme wanted, int[] lines) {
            Scheme scheme = withoutPairs(wanted);
            points = scheme.points;
            twins = scheme.twins();
            through = lines;
            found = new int[MOST_POINTS + 1];
            Arrays.fill(found, NONE);
            for (int p = 0; p < MOST_POINTS; p++) {
                room[p] = (1 << places) - 1;
            }
            for (int i = 0; i < MOST_POINTS * MOST_POINTS; i++) {
                told[i] = scheme.join[i] == NONE ? 0 : scheme.row[scheme.join[i]];
            }
        }

        /** Lines of two points say nothing about three points, and without them more points are twins. */
        private static Scheme withoutPairs(Scheme wanted) {
            int[] numbers = new int[MOST_LINES];
            int many = 0;
            for (int i = 0; i < wanted.lines; i++) {
                if (wanted.size[i] > LEAST_ON_LINE) {
                    numbers[many] = wanted.row[i];
                    many++;
                }
            }
            return many == wanted.lines ? wanted : new Scheme(wanted.points, numbers, many);
        }

        /** In how many ways p and all behind it find places (1 at most, if not all are wanted). */
        private int seatFrom(int p) {
            if (p >= points) {
                if (found[1] == NONE) {
                    System.arraycopy(seat, 0, found, 1, points);
                }
                return 1;
            }
            int free = room[p * MOST_POINTS + p];
            int sum = 0;
            for (int place = 0; place < places && (all || sum == 0); place++) {
                if ((free >> place & 1) != 0 && leavesRoom(p, place)) {
                    seat[p] = place;
                    sum += seatFrom(p + 1);
                }
            }
            return sum;
        }

        /** Whether all behind p still have places, once p is there: in line with earlier ones just if told. */
        private boolean leavesRoom(int p, int place) {
            int later = p >= twinsFrom ? twins[p] : 0;
            for (int r = p + 1; r < points; r++) {
                int left = room[p * MOST_POINTS + r] & ~(1 << place);
                if ((later >> r & 1) != 0) {
                    left &= -(2 << place);
                }
                for (int q = 0; q < p; q++) {
                    int inLine = through[place * MOST_PLACES + seat[q]];
                    left &= (told[p * MOST_POINTS + q] >> r & 1) != 0 ? inLine : ~inLine;
                }
                if (left == 0) {
                    return false;
                }
                room[(p + 1) * MOST_POINTS + r] = left;
            }
            return true;
        }

        private void markSquare(int g) {
            for (int y = 0; y < g; y++) {
                for (int x = 0; x < g; x++) {
                    mark(g * y + x, x, y, 1);
                }
            }
        }

        private void markPlane(int q) {
            int many = 0;
            for (int code = 1; code < q * q * q; code++) {
                int x = code / (q * q);
                int y = code / q % q;
                int z = code % q;
                if ((x != 0 ? x : y != 0 ? y : z) == 1) {
                    mark(many, x, y, z);
                    many++;
                }
            }
        }

        private void mark(int place, int x, int y, int z) {
            if (place < MOST_PLACES) {
                first[place] = x;
                second[place] = y;
                third[place] = z;
            }
        }

        /** For each two places (16 times the one, and the other) all that are in line with them. */
        private int[] linesOfPlaces(int mod) {
            int[] lines = new int[MOST_PLACES * MOST_PLACES];
            for (int a = 0; a < places; a++) {
                for (int b = 0; b < a; b++) {
                    int inLine = 1 << a | 1 << b;
                    for (int c = 0; c < places; c++) {
                        int spanned = span(a, b, c);
                        if (spanned == 0 || mod > 0 && spanned % mod == 0) {
                            inLine |= 1 << c;
                        }
                    }
                    lines[a * MOST_PLACES + b] = inLine;
                    lines[b * MOST_PLACES + a] = inLine;
                }
            }
            return lines;
        }

        private int span(int a, int b, int c) {
            return first[a] * (second[b] * third[c] - second[c] * third[b])
                    - second[a] * (first[b] * third[c] - first[c] * third[b])
                    + third[a] * (first[b] * second[c] - first[c] * second[b]);
        }
    }

    /** The game for the first line. */
    private static final class Player {
        private static final int MASKS = 1 << MOST_POINTS;
        private static final int STANDS = 6561;

        /** Whether some points hold a line. */
        private final boolean[] holds = new boolean[MASKS];
        /** Sets as numbers of base 3, so that mine and twice theirs tell how the game stands. */
        private final int[] ternary = new int[MASKS];
        /** What is known of a stand: 0 nothing, else 2 more than what the next one comes to. */
        private final byte[] known = new byte[STANDS];
        private int points = 0;

        /** What the first one comes to, and the point. */
        int[] solved(Scheme scheme) {
            if (scheme.solved == null) {
                prepare(scheme);
                int best = -2;
                int begin = 0;
                for (int p = 0; p < points && best < 1; p++) {
                    int worth = -worth(0, 1 << p, 1);
                    if (worth > best) {
                        best = worth;
                        begin = p;
                    }
                }
                scheme.solved = new int[] {best, begin};
            }
            return scheme.solved;
        }

        private void prepare(Scheme scheme) {
            points = scheme.points;
            Arrays.fill(known, (byte) 0);
            for (int mask = 1; mask < 1 << points; mask++) {
                ternary[mask] = 3 * ternary[mask >> 1] + (mask & 1);
                holds[mask] = Sets.holdsLine(scheme, mask);
            }
        }

        /** What the one whose turn it is comes to; nobody has a line yet. */
        private int worth(int mine, int theirs, int taken) {
            if (taken >= points) {
                return 0;
            }
            int stand = ternary[mine] + 2 * ternary[theirs];
            if (known[stand] == 0) {
                known[stand] = (byte) (2 + findWorth(mine, theirs, taken));
            }
            return known[stand] - 2;
        }

        private int findWorth(int mine, int theirs, int taken) {
            if (ends(mine, mine | theirs) != NONE) {
                return 1;
            }
            int threat = ends(theirs, mine | theirs);
            if (threat != NONE) {
                return -worth(theirs, mine | 1 << threat, taken + 1);
            }
            int best = -1;
            for (int p = 0; p < points && best < 1; p++) {
                if (((mine | theirs) >> p & 1) == 0) {
                    best = Math.max(best, -worth(theirs, mine | 1 << p, taken + 1));
                }
            }
            return best;
        }

        /** The least free point that makes a line of some points; NONE without. */
        private int ends(int some, int used) {
            for (int p = 0; p < points; p++) {
                if ((used >> p & 1) == 0 && holds[some | 1 << p]) {
                    return p;
                }
            }
            return NONE;
        }
    }

    /** Sets of points and sets of lines. */
    private static final class Sets {
        private int spreadsMany = 0;
        private int spreadsLeast = NONE;

        static boolean holdsLine(Scheme scheme, int some) {
            for (int i = 0; i < scheme.lines; i++) {
                if ((scheme.row[i] & ~some) == 0) {
                    return true;
                }
            }
            return false;
        }

        /** A set meets all lines, if what is left holds none. */
        int cover(Scheme scheme) {
            int all = (1 << scheme.points) - 1;
            int best = all;
            for (int some = 0; some < all; some++) {
                if (Integer.bitCount(some) < Integer.bitCount(best) && !holdsLine(scheme, all & ~some)) {
                    best = some;
                }
            }
            return best;
        }

        int cap(Scheme scheme) {
            int best = 0;
            for (int some = 1; some < 1 << scheme.points; some++) {
                if (Integer.bitCount(some) > Integer.bitCount(best) && !holdsLine(scheme, some)) {
                    best = some;
                }
            }
            return best;
        }

        int halves(Scheme scheme) {
            int sum = 0;
            for (int half = 1; half < 1 << scheme.points; half += 2) {
                if (isHalf(scheme, half)) {
                    sum++;
                }
            }
            return sum;
        }

        int firstHalf(Scheme scheme) {
            for (int half = 1; half < 1 << scheme.points; half += 2) {
                if (isHalf(scheme, half)) {
                    return half;
                }
            }
            return NONE;
        }

        private static boolean isHalf(Scheme scheme, int half) {
            return !holdsLine(scheme, half) && !holdsLine(scheme, (1 << scheme.points) - 1 & ~half);
        }

        int spreads(Scheme scheme) {
            findSpreads(scheme);
            return spreadsMany;
        }

        int leastSpread(Scheme scheme) {
            findSpreads(scheme);
            return spreadsLeast;
        }

        private void findSpreads(Scheme scheme) {
            spreadsMany = 0;
            spreadsLeast = NONE;
            coverFrom(scheme, 0, 0, 0);
        }

        /** Covers the first point, from a given one on, that is left; each line goes on at a later point. */
        private void coverFrom(Scheme scheme, int point, int covered, int chosen) {
            int p = point;
            while (p < scheme.points && (covered >> p & 1) != 0) {
                p++;
            }
            if (p >= scheme.points) {
                spreadsMany++;
                spreadsLeast = spreadsLeast == NONE ? chosen : Math.min(spreadsLeast, chosen);
                return;
            }
            for (int i = 0; i < scheme.lines; i++) {
                if ((scheme.row[i] >> p & 1) != 0 && (scheme.row[i] & covered) == 0) {
                    coverFrom(scheme, p + 1, covered | scheme.row[i], chosen | 1 << i);
                }
            }
        }
    }

    /** Years by a seed, on lines of their own. */
    private static final class Years {
        private int seed = 0;
        final int[] row = new int[MOST_LINES];
        int lines = 0;
        int added = 0;

        void run(Scheme scheme, int firstSeed, int n) {
            seed = firstSeed;
            lines = scheme.lines;
            added = 0;
            System.arraycopy(scheme.row, 0, row, 0, lines);
            for (int year = 0; year < n; year++) {
                if (draw(3) < 2) {
                    tryLine(scheme.points);
                } else if (lines > 0) {
                    leaveOut(draw(lines));
                }
            }
        }

        private int draw(int n) {
            seed = seed * 1103515245 + 12345;
            return n < 1 ? 0 : (seed >>> 16 & 32767) % n;
        }

        private void tryLine(int points) {
            int line = 1 << draw(points);
            line |= 1 << draw(points);
            line |= 1 << draw(points);
            if (Integer.bitCount(line) == 3 && lines < MOST_LINES && Scheme.keepsApart(line, row, lines)) {
                row[lines] = line;
                lines++;
                added++;
            }
        }

        private void leaveOut(int line) {
            for (int i = line; i + 1 < lines; i++) {
                row[i] = row[i + 1];
            }
            lines--;
        }
    }
}
