/**
 * Rings between two rounds, over a field of a prime: chords of an outer conic that touch an inner one,
 * gone on with from point to point until they close.
 *
 * All rows are made once, with the object: a call makes nothing, however often the rounds change.
 */
public final class ChordRings {
    public static final int NONE = -6, UNKNOWN = -1, OUTSIDE = -2, STATE = -3, NO = -5;

    private static final int FIRST_PRIME = 7, LEAST_PRIME = 5, MOST_PRIME = 199;
    private static final int MOST_GOING = 100000, MOST_SKIP = 1000, MOST_CLOSING = 31;

    private final Numbers numbers;
    private final Form outer, outerCofactors;
    private final Form inner, innerCofactors;
    private final Form mixed, mixedCofactors;
    private final Triple here, there, line;
    private final Cubic pencil;
    private final Rings walks;
    private final Curve adding;
    private final Series row;
    private boolean walksKnown, addingKnown, rowKnown;

    public ChordRings() {
        numbers = new Numbers(FIRST_PRIME);
        outer = new Form(numbers);
        outerCofactors = new Form(numbers);
        inner = new Form(numbers);
        innerCofactors = new Form(numbers);
        mixed = new Form(numbers);
        mixedCofactors = new Form(numbers);
        here = new Triple(numbers);
        there = new Triple(numbers);
        line = new Triple(numbers);
        pencil = new Cubic(numbers);
        walks = new Rings(numbers);
        adding = new Curve(numbers);
        row = new Series(numbers);
        startRounds();
    }

    // ---- 1 the field, the rounds

    public int field(int p) {
        if (!isPrime(p)) {
            return OUTSIDE;
        }
        int was = numbers.prime();
        numbers.take(p);
        startRounds();
        return was;
    }

    public int round(int which, int a, int b, int c, int d, int e, int f) {
        if (which < 0 || which > 1 || !areNumbers(a, b, c) || !areNumbers(d, e, f)) {
            return OUTSIDE;
        }
        Form form = which == 0 ? outer : inner;
        form.take(a, b, c, d, e, f);
        renew();
        return 1;
    }

    public int given(int which, int i) {
        if (which < 0 || which > 1 || i < 0 || i > 5) {
            return OUTSIDE;
        }
        return which == 0 ? outer.part(i) : inner.part(i);
    }

    public int work(int what, int x, int y) {
        if (what < 0 || what > 2 || !numbers.has(x) || !numbers.has(y)) {
            return OUTSIDE;
        }
        if (what == 0) {
            return numbers.rest(x + y);
        }
        if (what == 1) {
            return numbers.rest(x * y);
        }
        return y == 0 ? OUTSIDE : numbers.rest(x * numbers.inverseOf(y));
    }

    public int root(int x) {
        return numbers.has(x) ? numbers.rootOf(x) : OUTSIDE;
    }

    public int cubic(int i) {
        if (i < 0 || i > 4) {
            return OUTSIDE;
        }
        return i == 4 ? pencil.discriminant() : pencil.part(i);
    }

    public int good() {
        return pencil.isGood() ? 1 : 0;
    }

    public int on(int s, int t, int x, int y, int z) {
        if (!numbers.has(s) || !numbers.has(t) || !areNumbers(x, y, z)) {
            return OUTSIDE;
        }
        mixed.takeMix(s, outer, t, inner);
        here.take(x, y, z);
        return mixed.at(here);
    }

    public int touches(int s, int t, int u, int v, int w) {
        if (!numbers.has(s) || !numbers.has(t) || !areNumbers(u, v, w)) {
            return OUTSIDE;
        }
        mixTouching(s, t);
        line.take(u, v, w);
        return mixedCofactors.at(line);
    }

    // ---- 2 points, flags, steps

    public int points() {
        return knowWalks() ? walks.countPoints() : NO;
    }

    public int point(int i, int what) {
        if (!knowWalks()) {
            return NO;
        }
        if (!walks.hasPoint(i)) {
            return UNKNOWN;
        }
        if (what < 0 || what > 3) {
            return OUTSIDE;
        }
        if (what == 3) {
            return walks.countFlagsAt(i);
        }
        here.takeKey(walks.pointKey(i));
        return here.part(what);
    }

    public int flags() {
        return knowWalks() ? walks.countFlags() : NO;
    }

    public int flag(int i, int what) {
        if (!knowWalks()) {
            return NO;
        }
        if (!walks.hasFlag(i)) {
            return UNKNOWN;
        }
        if (what < 0 || what > 5) {
            return OUTSIDE;
        }
        if (what == 0) {
            return walks.pointOf(i);
        }
        if (what == 4) {
            return walks.nextOf(i);
        }
        if (what == 5) {
            return walks.beforeOf(i);
        }
        line.takeKey(walks.lineKey(i));
        return line.part(what - 1);
    }

    public int go(int i, int n) {
        if (!knowWalks()) {
            return NO;
        }
        if (!walks.hasFlag(i)) {
            return UNKNOWN;
        }
        return n < 0 || n > MOST_GOING ? OUTSIDE : walks.after(i, n);
    }

    public int ring(int i) {
        if (!knowWalks()) {
            return NO;
        }
        return walks.hasFlag(i) ? walks.ringOf(i) : UNKNOWN;
    }

    public int rings() {
        return knowWalks() ? walks.countRings() : NO;
    }

    // ---- 3 the series, the curve, skips

    public int series(int k) {
        if (!knowRow()) {
            return NO;
        }
        return k < 0 || k > Series.LAST ? OUTSIDE : row.part(k);
    }

    public int determinant(int n) {
        if (!knowRow()) {
            return NO;
        }
        return n < 3 || n > MOST_CLOSING ? OUTSIDE : row.closing(n);
    }

    public int closes(int n) {
        if (!knowRow()) {
            return NO;
        }
        if (n < 1 || n > MOST_CLOSING) {
            return OUTSIDE;
        }
        return n > 2 && row.closing(n) == 0 ? 1 : 0;
    }

    public int least() {
        if (!knowRow()) {
            return NO;
        }
        for (int n = 3; n <= MOST_CLOSING; n++) {
            if (row.closing(n) == 0) {
                return n;
            }
        }
        return NONE;
    }

    public int multiple(int k, int what) {
        if (!knowAdding()) {
            return NO;
        }
        if (!isSkip(k) || what < 0 || what > 1) {
            return OUTSIDE;
        }
        return what == 0 ? adding.acrossAt(k) : adding.upAt(k);
    }

    public int order() {
        return knowAdding() ? adding.closing() : NO;
    }

    public int curve() {
        return knowAdding() ? adding.countPoints() : NO;
    }

    public int chord(int i, int k, int what) {
        if (!knowWalks() || !knowAdding()) {
            return NO;
        }
        if (!walks.hasFlag(i)) {
            return UNKNOWN;
        }
        if (!isSkip(k) || what < 0 || what > 3) {
            return OUTSIDE;
        }
        drawChord(i, k);
        if (what < 3) {
            return line.part(what);
        }
        mixSkip(k);
        return mixedCofactors.at(line) == 0 ? 1 : 0;
    }

    public int all(int k, int s, int t) {
        if (!knowWalks()) {
            return NO;
        }
        if (!isSkip(k) || !numbers.has(s) || !numbers.has(t) || s == 0 && t == 0) {
            return OUTSIDE;
        }
        mixTouching(s, t);
        int count = 0;
        for (int i = 0; i < walks.countFlags(); i++) {
            drawChord(i, k);
            if (mixedCofactors.at(line) == 0) {
                count++;
            }
        }
        return count;
    }

    // ---- what the calls share

    private static boolean isPrime(int p) {
        if (p < LEAST_PRIME || p > MOST_PRIME) {
            return false;
        }
        for (int d = 2; d * d <= p; d++) {
            if (p % d == 0) {
                return false;
            }
        }
        return true;
    }

    private boolean areNumbers(int x, int y, int z) {
        return numbers.has(x) && numbers.has(y) && numbers.has(z);
    }

    private static boolean isSkip(int k) {
        return k >= 0 && k <= MOST_SKIP;
    }

    private void startRounds() {
        outer.take(1, 1, -1, 0, 0, 0);
        inner.take(1, 1, -1, 0, 0, 0);
        renew();
    }

    /** The cubic is cheap and asked for by every call; the rest waits until a call needs it. */
    private void renew() {
        outerCofactors.takeCofactors(outer);
        innerCofactors.takeCofactors(inner);
        pencil.take(outer, outerCofactors, inner, innerCofactors);
        walksKnown = false;
        addingKnown = false;
        rowKnown = false;
    }

    private boolean knowWalks() {
        if (!pencil.isGood()) {
            return false;
        }
        if (!walksKnown) {
            walks.findPoints(outer);
            walks.findFlags(innerCofactors);
            walks.findSteps(outer);
            walks.findRings();
            walksKnown = true;
        }
        return true;
    }

    private boolean knowAdding() {
        if (!pencil.isGood()) {
            return false;
        }
        if (!addingKnown) {
            adding.findMultiples(pencil);
            adding.findCount(pencil);
            addingKnown = true;
        }
        return true;
    }

    private boolean knowRow() {
        if (!pencil.isGood()) {
            return false;
        }
        if (!rowKnown) {
            row.take(pencil);
            rowKnown = true;
        }
        return true;
    }

    private void mixTouching(int s, int t) {
        mixed.takeMix(s, outer, t, inner);
        mixedCofactors.takeCofactors(mixed);
    }

    private void mixSkip(int k) {
        int t = adding.acrossAt(k);
        if (t == NONE) {
            mixTouching(1, 0);
        } else {
            mixTouching(t, 1);
        }
    }

    private void drawChord(int i, int k) {
        int from = walks.pointKey(walks.pointOf(i));
        int to = walks.pointKey(walks.pointOf(walks.after(i, k)));
        here.takeKey(from);
        if (from == to) {
            line.takePolar(outer, here);
        } else {
            there.takeKey(to);
            line.takeJoin(here, there);
        }
        line.takeKey(line.key());
    }

    /** The field: what is left by a prime. */
    private static final class Numbers {
        private final int[] inverses = new int[MOST_PRIME + 1];
        private final int[] roots = new int[MOST_PRIME + 1];
        private int p;

        Numbers(int prime) {
            take(prime);
        }

        /** Asks for a prime that is no more than MOST_PRIME, so that its rows hold every number. */
        void take(int prime) {
            p = prime;
            inverses[1] = 1;
            for (int x = 2; x < p; x++) {
                inverses[x] = p - (p / x) * inverses[p % x] % p;
            }
            for (int x = 0; x < p; x++) {
                roots[x] = NONE;
            }
            for (int r = 0; r <= p / 2; r++) {
                roots[r * r % p] = r;
            }
        }

        int prime() {
            return p;
        }

        boolean has(int x) {
            return x >= 0 && x < p;
        }

        int rest(int x) {
            int left = x % p;
            return left < 0 ? left + p : left;
        }

        /** 0 for 0, which has none: whoever divides looks first. */
        int inverseOf(int x) {
            return x > 0 && x < p ? inverses[x] : 0;
        }

        /** The lesser root, or NONE. */
        int rootOf(int x) {
            return roots[rest(x)];
        }
    }

    /** A point or a line: three numbers, and the key by which such triples are told apart and ordered. */
    private static final class Triple {
        private final Numbers numbers;
        private int x, y, z;

        Triple(Numbers numbers) {
            this.numbers = numbers;
        }

        void take(int newX, int newY, int newZ) {
            x = numbers.rest(newX);
            y = numbers.rest(newY);
            z = numbers.rest(newZ);
        }

        int part(int what) {
            return what == 0 ? x : what == 1 ? y : z;
        }

        /** Keys rise in the document's order, so that one number stands for a triple in rows. */
        int key() {
            int p = numbers.prime();
            if (z != 0) {
                int scale = numbers.inverseOf(z);
                return numbers.rest(y * scale) * p + numbers.rest(x * scale);
            }
            return y != 0 ? p * p + numbers.rest(x * numbers.inverseOf(y)) : p * p + p;
        }

        void takeKey(int key) {
            int p = numbers.prime();
            z = key < p * p ? 1 : 0;
            y = z == 1 ? key / p : key < p * p + p ? 1 : 0;
            x = z == 1 ? key % p : y == 1 ? key - p * p : 1;
        }

        void takeSum(int s, Triple first, int t, Triple second) {
            x = numbers.rest(s * first.x + t * second.x);
            y = numbers.rest(s * first.y + t * second.y);
            z = numbers.rest(s * first.z + t * second.z);
        }

        void takeJoin(Triple first, Triple second) {
            take(first.y * second.z - first.z * second.y,
                first.z * second.x - first.x * second.z,
                first.x * second.y - first.y * second.x);
        }

        /** The form's matrix on a point: of a point of the form it is the line that touches there. */
        void takePolar(Form form, Triple point) {
            take(form.side(0, point), form.side(1, point), form.side(2, point));
        }
    }

    /** A symmetric matrix with the rows a f e, f b d, e d c. */
    private static final class Form {
        private final Numbers numbers;
        private int a, b, c, d, e, f;

        Form(Numbers numbers) {
            this.numbers = numbers;
        }

        void take(int newA, int newB, int newC, int newD, int newE, int newF) {
            a = numbers.rest(newA);
            b = numbers.rest(newB);
            c = numbers.rest(newC);
            d = numbers.rest(newD);
            e = numbers.rest(newE);
            f = numbers.rest(newF);
        }

        void takeMix(int s, Form first, int t, Form second) {
            take(s * first.a + t * second.a, s * first.b + t * second.b, s * first.c + t * second.c,
                s * first.d + t * second.d, s * first.e + t * second.e, s * first.f + t * second.f);
        }

        void takeCofactors(Form m) {
            take(m.b * m.c - m.d * m.d, m.a * m.c - m.e * m.e, m.a * m.b - m.f * m.f,
                m.e * m.f - m.a * m.d, m.d * m.f - m.b * m.e, m.d * m.e - m.c * m.f);
        }

        int part(int i) {
            switch (i) {
                case 0: return a;
                case 1: return b;
                case 2: return c;
                case 3: return d;
                case 4: return e;
                default: return f;
            }
        }

        int side(int matrixRow, Triple v) {
            if (matrixRow == 0) {
                return a * v.x + f * v.y + e * v.z;
            }
            return matrixRow == 1 ? f * v.x + b * v.y + d * v.z : e * v.x + d * v.y + c * v.z;
        }

        int between(Triple v, Triple w) {
            return numbers.rest(v.x * side(0, w) + v.y * side(1, w) + v.z * side(2, w));
        }

        int at(Triple v) {
            return between(v, v);
        }

        /** The sum of all products of parts at the same place: of a matrix and its own cofactors, three determinants. */
        int against(Form m) {
            return numbers.rest(a * m.a + b * m.b + c * m.c + 2 * (d * m.d + e * m.e + f * m.f));
        }

        int wholeDeterminant() {
            return numbers.rest(a * (b * c - d * d) + f * (d * e - c * f) + e * (d * f - b * e));
        }
    }

    /** The determinant of t C + D, and the same cubic by its first part. */
    private static final class Cubic {
        private final Numbers numbers;
        private int c0, c1, c2, c3;

        Cubic(Numbers numbers) {
            this.numbers = numbers;
        }

        void take(Form outer, Form outerCofactors, Form inner, Form innerCofactors) {
            c0 = inner.wholeDeterminant();
            c1 = innerCofactors.against(outer);
            c2 = outerCofactors.against(inner);
            c3 = outer.wholeDeterminant();
        }

        int part(int i) {
            switch (i) {
                case 0: return c0;
                case 1: return c1;
                case 2: return c2;
                case 3: return c3;
                default: return 0;
            }
        }

        int partByFirst(int i) {
            return numbers.rest(part(i) * numbers.inverseOf(c0));
        }

        int discriminant() {
            int inside = numbers.rest(c1 * c2);
            int ends = numbers.rest(c0 * c3);
            int firstCubed = numbers.rest(c1 * c1 * c1);
            int secondCubed = numbers.rest(c2 * c2 * c2);
            return numbers.rest(inside * inside - 4 * c0 * secondCubed - 4 * c3 * firstCubed
                - 27 * ends * ends + 18 * ends * inside);
        }

        boolean isGood() {
            return c0 != 0 && c3 != 0 && discriminant() != 0;
        }
    }

    /**
     * Where a line meets a form that is not degenerate: none, one or two points.
     * Points and lines change places freely, so it also tells the lines through a point that touch a form,
     * if it is given that form's cofactors.
     */
    private static final class Meeting {
        private final Numbers numbers;
        private final Triple start, end, found;
        private int count, lower, upper;

        Meeting(Numbers numbers) {
            this.numbers = numbers;
            start = new Triple(numbers);
            end = new Triple(numbers);
            found = new Triple(numbers);
        }

        void find(Form form, int lineKey) {
            count = 0;
            span(lineKey);
            int atStart = form.at(start);
            int atEnd = form.at(end);
            int between = form.between(start, end);
            if (atStart == 0) {
                put(1, 0);
                if (between != 0) {
                    put(-atEnd, 2 * between);
                }
                return;
            }
            int root = numbers.rootOf(between * between - atStart * atEnd);
            if (root == NONE) {
                return;
            }
            put(root - between, atStart);
            if (root != 0) {
                put(-root - between, atStart);
            }
        }

        int size() {
            return count;
        }

        /** In order: 0 the lower key, 1 the upper one. */
        int keyAt(int i) {
            return i == 0 ? lower : upper;
        }

        /** The key beside that one, itself if it is alone. */
        int keyBeside(int key) {
            return count < 2 ? key : key == lower ? upper : lower;
        }

        /** Two triples that span what the line goes through. */
        private void span(int lineKey) {
            found.takeKey(lineKey);
            if (found.z != 0) {
                start.take(1, 0, -found.x);
                end.take(0, 1, -found.y);
            } else if (found.y != 0) {
                start.take(1, -found.x, 0);
                end.take(0, 0, 1);
            } else {
                start.take(0, 1, 0);
                end.take(0, 0, 1);
            }
        }

        private void put(int s, int t) {
            found.takeSum(s, start, t, end);
            int key = found.key();
            if (count == 0) {
                lower = key;
                upper = key;
            } else if (key < lower) {
                lower = key;
            } else {
                upper = key;
            }
            count++;
        }
    }

    /** The points of the outer round, its flags, and the rings that steps make of them. */
    private static final class Rings {
        private static final int MOST_POINTS = MOST_PRIME + 1, MOST_FLAGS = 2 * MOST_POINTS;

        private final Numbers numbers;
        private final Meeting meeting;
        private final Triple level;
        private final int[] pointKeys = new int[MOST_POINTS];
        private final int[] firstFlags = new int[MOST_POINTS + 1];
        private final int[] flagPoints = new int[MOST_FLAGS];
        private final int[] flagLines = new int[MOST_FLAGS];
        private final int[] nexts = new int[MOST_FLAGS];
        private final int[] befores = new int[MOST_FLAGS];
        // All flags in the order of going, ring behind ring: so a long way is one look.
        private final int[] walk = new int[MOST_FLAGS];
        private final int[] places = new int[MOST_FLAGS];
        private final int[] ringStarts = new int[MOST_FLAGS];
        private final int[] ringSizes = new int[MOST_FLAGS];
        private int pointCount, flagCount, ringCount;

        Rings(Numbers numbers) {
            this.numbers = numbers;
            meeting = new Meeting(numbers);
            level = new Triple(numbers);
        }

        int countPoints() {
            return pointCount;
        }

        int countFlags() {
            return flagCount;
        }

        int countRings() {
            return ringCount;
        }

        boolean hasPoint(int i) {
            return i >= 0 && i < pointCount;
        }

        boolean hasFlag(int i) {
            return i >= 0 && i < flagCount;
        }

        int pointKey(int i) {
            return hasPoint(i) ? pointKeys[i] : UNKNOWN;
        }

        int countFlagsAt(int i) {
            return hasPoint(i) ? firstFlags[i + 1] - firstFlags[i] : UNKNOWN;
        }

        int pointOf(int i) {
            return hasFlag(i) ? flagPoints[i] : UNKNOWN;
        }

        int lineKey(int i) {
            return hasFlag(i) ? flagLines[i] : UNKNOWN;
        }

        int nextOf(int i) {
            return hasFlag(i) ? nexts[i] : UNKNOWN;
        }

        int beforeOf(int i) {
            return hasFlag(i) ? befores[i] : UNKNOWN;
        }

        int ringOf(int i) {
            return hasFlag(i) ? ringSizes[i] : UNKNOWN;
        }

        int after(int i, int steps) {
            if (!hasFlag(i) || steps < 0 || ringSizes[i] < 1) {
                return UNKNOWN;
            }
            int start = ringStarts[i];
            return walk[start + (places[i] - start + steps) % ringSizes[i]];
        }

        /** Level by level, and what lies beyond them all last: so the points come in order by themselves. */
        void findPoints(Form outer) {
            pointCount = 0;
            int p = numbers.prime();
            for (int y = 0; y < p; y++) {
                level.take(0, 1, -y);
                meeting.find(outer, level.key());
                addPoints(p * p);
            }
            level.take(0, 0, 1);
            meeting.find(outer, level.key());
            addPoints(p * p + p + 1);
        }

        /** All levels meet in one point, which must not come before its turn. */
        private void addPoints(int keyLimit) {
            for (int i = 0; i < meeting.size(); i++) {
                if (meeting.keyAt(i) < keyLimit && pointCount < MOST_POINTS) {
                    pointKeys[pointCount] = meeting.keyAt(i);
                    pointCount++;
                }
            }
        }

        void findFlags(Form innerCofactors) {
            flagCount = 0;
            for (int i = 0; i < pointCount; i++) {
                firstFlags[i] = flagCount;
                meeting.find(innerCofactors, pointKeys[i]);
                for (int j = 0; j < meeting.size() && flagCount < MOST_FLAGS; j++) {
                    flagPoints[flagCount] = i;
                    flagLines[flagCount] = meeting.keyAt(j);
                    flagCount++;
                }
            }
            firstFlags[pointCount] = flagCount;
        }

        void findSteps(Form outer) {
            for (int i = 0; i < flagCount; i++) {
                meeting.find(outer, flagLines[i]);
                int point = findPoint(meeting.keyBeside(pointKeys[flagPoints[i]]));
                int next = flagBeside(i, point);
                nexts[i] = next;
                befores[next] = i;
            }
        }

        private int findPoint(int key) {
            int low = 0;
            int high = pointCount - 1;
            for (int looks = 0; looks < MOST_POINTS && low <= high; looks++) {
                int middle = (low + high) / 2;
                if (pointKeys[middle] == key) {
                    return middle;
                }
                if (pointKeys[middle] < key) {
                    low = middle + 1;
                } else {
                    high = middle - 1;
                }
            }
            return UNKNOWN;
        }

        /** That with another line at the point; with the same line, if the point has no other. */
        private int flagBeside(int flag, int point) {
            int beside = flag;
            if (!hasPoint(point)) {
                return beside;
            }
            for (int i = firstFlags[point]; i < firstFlags[point + 1]; i++) {
                beside = i;
                if (flagLines[i] != flagLines[flag]) {
                    return beside;
                }
            }
            return beside;
        }

        /** A step can be gone back, so going on from a flag comes to that flag again, to no other first. */
        void findRings() {
            ringCount = 0;
            for (int i = 0; i < flagCount; i++) {
                ringSizes[i] = 0;
            }
            int done = 0;
            for (int i = 0; i < flagCount; i++) {
                if (ringSizes[i] == 0) {
                    done = walkRing(i, done);
                    ringCount++;
                }
            }
        }

        private int walkRing(int first, int start) {
            int end = start;
            int flag = first;
            while (end < flagCount && (end == start || flag != first)) {
                walk[end] = flag;
                places[flag] = end;
                end++;
                flag = nexts[flag];
            }
            for (int place = start; place < end; place++) {
                ringStarts[walk[place]] = start;
                ringSizes[walk[place]] = end - start;
            }
            return end;
        }
    }

    /** The points of y y = cubic at t by c0, and the multiples of t 0, y 1 among them. */
    private static final class Curve {
        // A curve over p numbers has at most p + 1 + 2 root p points: 228 for the last prime.
        private static final int MOST_ORDER = 256;

        private final Numbers numbers;
        private final int[] acrosses = new int[MOST_ORDER];
        private final int[] ups = new int[MOST_ORDER];
        private int closing, pointCount;

        Curve(Numbers numbers) {
            this.numbers = numbers;
        }

        int closing() {
            return closing;
        }

        int countPoints() {
            return pointCount;
        }

        int acrossAt(int k) {
            return k < 0 || closing < 1 ? NONE : acrosses[k % closing];
        }

        int upAt(int k) {
            return k < 0 || closing < 1 ? NONE : ups[k % closing];
        }

        /** Each multiple is the one ahead and ONE; y -1 at t 0 is what ONE makes nought with. */
        void findMultiples(Cubic cubic) {
            int c1 = cubic.partByFirst(1);
            int c2 = cubic.partByFirst(2);
            int byThird = numbers.inverseOf(cubic.partByFirst(3));
            int last = numbers.rest(-1);
            acrosses[0] = NONE;
            ups[0] = NONE;
            int t = 0;
            int y = 1;
            int k = 1;
            while (k < MOST_ORDER - 1 && (t != 0 || y != last)) {
                acrosses[k] = t;
                ups[k] = y;
                int slope = t == 0 ? c1 * numbers.inverseOf(2) : (y - 1) * numbers.inverseOf(t);
                slope = numbers.rest(slope);
                t = numbers.rest((slope * slope - c2) * byThird - t);
                y = numbers.rest(-slope * t - 1);
                k++;
            }
            acrosses[k] = t;
            ups[k] = y;
            closing = k + 1;
        }

        void findCount(Cubic cubic) {
            int c1 = cubic.partByFirst(1);
            int c2 = cubic.partByFirst(2);
            int c3 = cubic.partByFirst(3);
            pointCount = 1;
            for (int t = 0; t < numbers.prime(); t++) {
                int square = numbers.rest(numbers.rest((c3 * t + c2) * t + c1) * t + 1);
                int root = numbers.rootOf(square);
                if (root != NONE) {
                    pointCount += root == 0 ? 1 : 2;
                }
            }
        }
    }

    /** The series whose square is the cubic by c0, and its determinants. */
    private static final class Series {
        static final int LAST = 31;
        private static final int MOST_ROWS = 15;

        private final Numbers numbers;
        private final int[] parts = new int[LAST + 1];
        private final int[] square = new int[MOST_ROWS * MOST_ROWS];

        Series(Numbers numbers) {
            this.numbers = numbers;
        }

        void take(Cubic cubic) {
            int half = numbers.inverseOf(2);
            parts[0] = 1;
            for (int k = 1; k <= LAST; k++) {
                int left = cubic.partByFirst(k);
                for (int i = 1; i < k; i++) {
                    left -= parts[i] * parts[k - i];
                }
                parts[k] = numbers.rest(numbers.rest(left) * half);
            }
        }

        int part(int k) {
            return k >= 0 && k <= LAST ? parts[k] : OUTSIDE;
        }

        /** Asks for n 3 to 31. */
        int closing(int n) {
            int rows = (n - 1) / 2;
            int from = n % 2 == 0 ? 3 : 2;
            if (rows < 1 || rows > MOST_ROWS) {
                return OUTSIDE;
            }
            for (int i = 0; i < rows; i++) {
                for (int j = 0; j < rows; j++) {
                    square[i * rows + j] = part(from + i + j);
                }
            }
            return clear(rows);
        }

        /** The determinant of the square, by clearing what stands below its diagonal. */
        private int clear(int rows) {
            int product = 1;
            for (int column = 0; column < rows; column++) {
                int pivot = findPivot(column, rows);
                if (pivot == NONE) {
                    return 0;
                }
                if (pivot != column) {
                    swapRows(pivot, column, rows);
                    product = -product;
                }
                int head = square[column * rows + column];
                product = numbers.rest(product * head);
                int byHead = numbers.inverseOf(head);
                for (int i = column + 1; i < rows; i++) {
                    int times = numbers.rest(square[i * rows + column] * byHead);
                    takeAway(i, times, column, rows);
                }
            }
            return product;
        }

        private int findPivot(int column, int rows) {
            for (int i = column; i < rows; i++) {
                if (square[i * rows + column] != 0) {
                    return i;
                }
            }
            return NONE;
        }

        private void swapRows(int first, int second, int rows) {
            for (int j = 0; j < rows; j++) {
                int held = square[first * rows + j];
                square[first * rows + j] = square[second * rows + j];
                square[second * rows + j] = held;
            }
        }

        private void takeAway(int target, int times, int source, int rows) {
            for (int j = source; j < rows; j++) {
                int left = square[target * rows + j] - times * square[source * rows + j];
                square[target * rows + j] = numbers.rest(left);
            }
        }
    }
}
