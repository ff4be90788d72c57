import java.math.BigInteger;
import java.util.ArrayList;
import java.util.Arrays;
import java.util.List;
import java.util.Random;

/**
 * Asks ChordRings everything about many pairs of rounds, and a plain model of the document, which shares no way
 * of working with it and mostly searches, the same; says every answer that differs.
 */
public final class OracleTest {
    private static final int NONE = -6;
    // The pairs whose answers PromisesTest has written out.
    private static final int[][][] FIXED = {
        {{5}, {0, 4, 0, 0, 4, 2}, {0, 3, 2, 4, 2, 0}},
        {{5}, {0, 1, 1, 2, 0, 3}, {2, 3, 1, 1, 0, 0}},
        {{23}, {2, 3, 6, 20, 22, 15}, {0, 13, 19, 1, 6, 5}},
        {{23}, {5, 20, 15, 15, 1, 9}, {20, 0, 5, 10, 1, 8}},
        {{199}, {1, 1, 198, 0, 0, 0}, {3, 5, 180, 1, 2, 7}},
    };
    private static int wrong = 0;
    private static long asked = 0;
    private static String pair = "";
    private static ChordRings rings;
    private static int calls;

    private static void due(int promise, String call, int got, int want) {
        asked++;
        if (got != want) {
            wrong++;
            if (wrong <= 50) {
                System.out.println("promise " + promise + ", " + pair + ": " + call + " answered " + got + ", due is " + want);
            }
        }
    }

    public static void main(String[] args) {
        Random random = new Random(20261116);
        int[] small = {5, 7, 11, 13, 17, 19, 23};
        int[] large = {31, 61, 97, 101, 127, 151, 193, 197, 199};
        int goodOnes = 0;
        for (int[][] pair : FIXED) {
            goodOnes += compare(pair[0][0], pair[1], pair[2], random);
        }
        for (int p : small) {
            // Rounds with many noughts bring the edges: points at z 0, rounds that share points, levels through them.
            for (int n = 0; n < 60; n++) {
                goodOnes += compare(p, someRound(random, p, n % 4), someRound(random, p, n % 3), random);
            }
        }
        for (int p : large) {
            for (int n = 0; n < 3; n++) {
                goodOnes += compare(p, someRound(random, p, n), someRound(random, p, 2 * n), random);
            }
        }
        if (goodOnes < 200) {
            wrong++;
            System.out.println("only " + goodOnes + " pairs were good");
        }
        compareAllNumbers();
        System.out.println(asked + " calls on " + goodOnes + " good pairs, " + wrong + " answers are not as due");
        if (wrong != 0) {
            System.exit(1);
        }
    }

    private static int[] someRound(Random random, int p, int noughts) {
        int[] six = new int[6];
        for (int i = 0; i < 6; i++) {
            six[i] = random.nextInt(p);
        }
        for (int i = 0; i < noughts; i++) {
            six[random.nextInt(6)] = 0;
        }
        return six;
    }

    /** The object to ask: a new one with the same pair before the 512 calls are over for which it is promised. */
    private static ChordRings ask(Plain plain) {
        if (rings == null || calls >= 500) {
            rings = new ChordRings();
            calls = 0;
            setPair(plain);
        }
        calls++;
        return rings;
    }

    private static void setPair(Plain plain) {
        int[] c = plain.outer;
        int[] d = plain.inner;
        rings.field(plain.p);
        due(2, "field again", rings.field(plain.p), plain.p);
        due(3, "round(0)", rings.round(0, c[0], c[1], c[2], c[3], c[4], c[5]), 1);
        due(3, "round(1)", rings.round(1, d[0], d[1], d[2], d[3], d[4], d[5]), 1);
        calls += 4;
    }

    private static int compare(int p, int[] c, int[] d, Random random) {
        pair = "p " + p + " outer " + Arrays.toString(c) + " inner " + Arrays.toString(d);
        Plain plain = new Plain(p, c, d);
        ask(plain);
        setPair(plain);
        compareRounds(plain, random);
        if (!plain.good) {
            return 0;
        }
        plain.findFlags();
        comparePoints(plain);
        compareFlags(plain, random);
        compareSeries(plain);
        compareCurve(plain);
        compareChords(plain, random);
        return 1;
    }

    private static void compareRounds(Plain plain, Random random) {
        for (int i = 0; i < 6; i++) {
            due(4, "given(0, " + i + ")", ask(plain).given(0, i), plain.outer[i]);
            due(4, "given(1, " + i + ")", ask(plain).given(1, i), plain.inner[i]);
        }
        for (int i = 0; i < 4; i++) {
            due(7, "cubic(" + i + ")", ask(plain).cubic(i), plain.cubic[i]);
        }
        due(7, "cubic(4)", ask(plain).cubic(4), plain.discriminant());
        due(8, "good()", ask(plain).good(), plain.good ? 1 : 0);
        for (int n = 0; n < 20; n++) {
            int s = random.nextInt(plain.p);
            int t = random.nextInt(plain.p);
            int[] v = {random.nextInt(plain.p), random.nextInt(plain.p), random.nextInt(plain.p)};
            int[][] mix = plain.mix(s, t);
            String rest = "(" + s + ", " + t + ", " + v[0] + ", " + v[1] + ", " + v[2] + ")";
            due(9, "on" + rest, ask(plain).on(s, t, v[0], v[1], v[2]), plain.bothSides(mix, v));
            due(10, "touches" + rest, ask(plain).touches(s, t, v[0], v[1], v[2]), plain.bothSides(plain.cofactors(mix), v));
        }
    }

    private static void comparePoints(Plain plain) {
        due(11, "points()", ask(plain).points(), plain.points.size());
        due(11, "points() as p + 1", ask(plain).points(), plain.p + 1);
        for (int i = 0; i < plain.points.size(); i++) {
            for (int what = 0; what < 3; what++) {
                due(12, "point(" + i + ", " + what + ")", ask(plain).point(i, what), plain.points.get(i)[what]);
            }
            int count = 0;
            for (int[] flag : plain.flags) {
                count += flag[0] == i ? 1 : 0;
            }
            due(12, "point(" + i + ", 3)", ask(plain).point(i, 3), count);
        }
        due(12, "point(-1, 0)", ask(plain).point(-1, 0), -1);
        due(12, "point(count, 0)", ask(plain).point(plain.points.size(), 0), -1);
    }

    private static void compareFlags(Plain plain, Random random) {
        int count = plain.flags.size();
        due(13, "flags()", ask(plain).flags(), count);
        int ringsLeft = 0;
        boolean[] seen = new boolean[count];
        for (int i = 0; i < count; i++) {
            for (int what = 0; what < 4; what++) {
                due(14, "flag(" + i + ", " + what + ")", ask(plain).flag(i, what), plain.flags.get(i)[what]);
            }
            int next = plain.next[i];
            due(14, "flag(" + i + ", 4)", ask(plain).flag(i, 4), next);
            due(14, "flag(" + next + ", 5)", ask(plain).flag(next, 5), i);
            int n = random.nextInt(1200);
            due(15, "go(" + i + ", " + n + ")", ask(plain).go(i, n), plain.go(i, n));
            int size = 1;
            for (int at = next; at != i; at = plain.next[at]) {
                size++;
            }
            due(16, "ring(" + i + ")", ask(plain).ring(i), size);
            due(16, "ring(" + i + "), all rings of a pair close alike", ask(plain).ring(i), ask(plain).order());
            if (!seen[i]) {
                ringsLeft++;
                int at = i;
                for (int k = 0; k < size; k++) {
                    seen[at] = true;
                    at = plain.next[at];
                }
            }
        }
        due(17, "rings()", ask(plain).rings(), ringsLeft);
        due(14, "flag(count, 0)", ask(plain).flag(count, 0), -1);
        due(15, "go(count, 0)", ask(plain).go(count, 0), -1);
        due(16, "ring(count)", ask(plain).ring(count), -1);
        due(15, "go(0, 100000)", ask(plain).go(0, 100000), plain.go(0, 100000));
    }

    private static void compareSeries(Plain plain) {
        int[] series = plain.series();
        for (int k = 0; k <= 31; k++) {
            due(18, "series(" + k + ")", ask(plain).series(k), series[k]);
        }
        int least = NONE;
        for (int n = 1; n <= 31; n++) {
            int determinant = n < 3 ? 1 : plain.determinant(series, n);
            if (n >= 3) {
                due(19, "determinant(" + n + ")", ask(plain).determinant(n), determinant);
            }
            due(20, "closes(" + n + ")", ask(plain).closes(n), determinant == 0 ? 1 : 0);
            due(20, "closes(" + n + ") by going", ask(plain).closes(n), plain.go(0, n) == 0 ? 1 : 0);
            if (determinant == 0 && least == NONE) {
                least = n;
            }
        }
        due(21, "least()", ask(plain).least(), least);
    }

    private static void compareCurve(Plain plain) {
        int[] at = null;
        int order = 0;
        for (int k = 0; k <= 1000; k++) {
            due(22, "multiple(" + k + ", 0)", ask(plain).multiple(k, 0), at == null ? NONE : at[0]);
            due(22, "multiple(" + k + ", 1)", ask(plain).multiple(k, 1), at == null ? NONE : at[1]);
            if (k > 0 && at == null && order == 0) {
                order = k;
            }
            at = plain.addOne(at);
        }
        due(23, "order()", ask(plain).order(), order);
        due(24, "curve()", ask(plain).curve(), plain.countCurve());
        due(24, "curve() as the flags", ask(plain).curve(), plain.flags.size());
    }

    private static void compareChords(Plain plain, Random random) {
        int count = plain.flags.size();
        for (int n = 0; n < 25; n++) {
            int i = random.nextInt(count);
            int k = n < 4 ? n : random.nextInt(1001);
            int[] chord = plain.chord(i, k);
            String call = "chord(" + i + ", " + k + ", ";
            for (int what = 0; what < 3; what++) {
                due(25, call + what + ")", ask(plain).chord(i, k, what), chord[what]);
            }
            due(25, call + "3)", ask(plain).chord(i, k, 3), 1);
        }
        due(25, "chord(count, 0, 0)", ask(plain).chord(count, 0, 0), -1);
        for (int n = 0; n < 6; n++) {
            int k = n < 4 ? n : random.nextInt(1001);
            int t = ask(plain).multiple(k, 0);
            due(26, "all(" + k + ", the skip)", ask(plain).all(k, t == NONE ? 1 : t, t == NONE ? 0 : 1), count);
        }
        if (plain.p < 30) {
            compareAll(plain, random);
        }
    }

    private static void compareAll(Plain plain, Random random) {
        for (int n = 0; n < 10; n++) {
            int k = random.nextInt(10);
            int s = n < 5 ? random.nextInt(plain.p) : random.nextInt(2);
            int t = s == 0 ? 1 : random.nextInt(plain.p);
            int[][] touched = plain.cofactors(plain.mix(s, t));
            int want = 0;
            for (int i = 0; i < plain.flags.size(); i++) {
                want += plain.bothSides(touched, plain.chord(i, k)) == 0 ? 1 : 0;
            }
            due(26, "all(" + k + ", " + s + ", " + t + ")", ask(plain).all(k, s, t), want);
        }
    }

    private static void compareAllNumbers() {
        ChordRings primes = new ChordRings();
        int last = 7;
        for (int p = -3; p < 230; p++) {
            pair = "p " + p;
            boolean fits = p >= 5 && p <= 199 && BigInteger.valueOf(p).isProbablePrime(50);
            due(2, "field(" + p + ")", primes.field(p), fits ? last : -2);
            if (!fits) {
                continue;
            }
            last = p;
            ChordRings few = new ChordRings();
            few.field(p);
            for (int x = 0; x < p; x++) {
                int root = NONE;
                for (int r = p - 1; r >= 0; r--) {
                    root = r * r % p == x ? r : root;
                }
                due(6, "root(" + x + ")", few.root(x), root);
                ChordRings many = new ChordRings();
                many.field(p);
                for (int y = x % 3; y < p; y += 3) {
                    due(5, "work(0, " + x + ", " + y + ")", many.work(0, x, y), (x + y) % p);
                    int product = x * y % p;
                    due(5, "work(1, " + x + ", " + y + ")", many.work(1, x, y), product);
                    due(5, "work(2, " + product + ", " + y + ")", many.work(2, product, y), y == 0 ? -2 : x);
                }
            }
        }
    }

    /** The document's words, by search wherever that is quick enough. */
    private static final class Plain {
        final int p;
        final int[] outer, inner;
        final int[][] c, d;
        final int[] cubic;
        final boolean good;
        final List<int[]> triples = new ArrayList<>();
        final List<int[]> points = new ArrayList<>();
        final List<int[]> flags = new ArrayList<>();
        int[] next;

        Plain(int p, int[] outer, int[] inner) {
            this.p = p;
            this.outer = outer;
            this.inner = inner;
            c = matrix(outer);
            d = matrix(inner);
            cubic = pencil();
            good = cubic[0] != 0 && cubic[3] != 0 && !hasRootTwice();
            for (int y = 0; y < p; y++) {
                for (int x = 0; x < p; x++) {
                    triples.add(new int[] {x, y, 1});
                }
            }
            for (int x = 0; x < p; x++) {
                triples.add(new int[] {x, 1, 0});
            }
            triples.add(new int[] {1, 0, 0});
        }

        private static int[][] matrix(int[] six) {
            return new int[][] {{six[0], six[5], six[4]}, {six[5], six[1], six[3]}, {six[4], six[3], six[2]}};
        }

        int mod(long x) {
            return (int) Math.floorMod(x, (long) p);
        }

        int inverse(int x) {
            for (int y = 1; y < p; y++) {
                if (mod((long) x * y) == 1) {
                    return y;
                }
            }
            throw new IllegalArgumentException("0 has no inverse");
        }

        int[][] mix(int s, int t) {
            int[][] sum = new int[3][3];
            for (int i = 0; i < 3; i++) {
                for (int j = 0; j < 3; j++) {
                    sum[i][j] = mod(s * c[i][j] + t * d[i][j]);
                }
            }
            return sum;
        }

        int[][] cofactors(int[][] m) {
            int[][] made = new int[3][3];
            for (int i = 0; i < 3; i++) {
                for (int j = 0; j < 3; j++) {
                    int i1 = (i + 1) % 3, i2 = (i + 2) % 3, j1 = (j + 1) % 3, j2 = (j + 2) % 3;
                    made[i][j] = mod(m[i1][j1] * m[i2][j2] - m[i1][j2] * m[i2][j1]);
                }
            }
            return made;
        }

        int bothSides(int[][] m, int[] v) {
            long sum = 0;
            for (int i = 0; i < 3; i++) {
                for (int j = 0; j < 3; j++) {
                    sum += (long) v[i] * m[i][j] * v[j];
                }
            }
            return mod(sum);
        }

        int dot(int[] v, int[] w) {
            return mod(v[0] * w[0] + v[1] * w[1] + v[2] * w[2]);
        }

        private int[] pencil() {
            int[][] orders = {{0, 1, 2, 1}, {1, 2, 0, 1}, {2, 0, 1, 1}, {0, 2, 1, -1}, {2, 1, 0, -1}, {1, 0, 2, -1}};
            long[] sum = new long[4];
            for (int[] order : orders) {
                for (int bits = 0; bits < 8; bits++) {
                    long product = order[3];
                    for (int i = 0; i < 3; i++) {
                        product *= (bits >> i & 1) == 1 ? c[i][order[i]] : d[i][order[i]];
                    }
                    sum[Integer.bitCount(bits)] += product;
                }
            }
            return new int[] {mod(sum[0]), mod(sum[1]), mod(sum[2]), mod(sum[3])};
        }

        /** Whether the cubic and its derivative have a divisor in common. */
        private boolean hasRootTwice() {
            int[] first = cubic.clone();
            int[] second = {cubic[1], mod(2 * cubic[2]), mod(3 * cubic[3]), 0};
            while (degree(second) >= 0) {
                while (degree(first) >= degree(second)) {
                    int shift = degree(first) - degree(second);
                    int times = mod((long) first[degree(first)] * inverse(second[degree(second)]));
                    int top = degree(second);
                    for (int i = 0; i <= top; i++) {
                        first[i + shift] = mod(first[i + shift] - (long) times * second[i]);
                    }
                }
                int[] held = first;
                first = second;
                second = held;
            }
            return degree(first) > 0;
        }

        private static int degree(int[] polynomial) {
            int degree = polynomial.length - 1;
            while (degree >= 0 && polynomial[degree] == 0) {
                degree--;
            }
            return degree;
        }

        int discriminant() {
            long c0 = cubic[0], c1 = cubic[1], c2 = cubic[2], c3 = cubic[3];
            return mod(c1 * c1 * c2 * c2 - 4 * c0 * c2 * c2 * c2 - 4 * c1 * c1 * c1 * c3
                - 27 * c0 * c0 * c3 * c3 + 18 * c0 * c1 * c2 * c3);
        }

        void findFlags() {
            List<int[]> touching = new ArrayList<>();
            int[][] touched = cofactors(d);
            for (int[] triple : triples) {
                if (bothSides(c, triple) == 0) {
                    points.add(triple);
                }
                if (bothSides(touched, triple) == 0) {
                    touching.add(triple);
                }
            }
            for (int i = 0; i < points.size(); i++) {
                for (int[] line : touching) {
                    if (dot(points.get(i), line) == 0) {
                        flags.add(new int[] {i, line[0], line[1], line[2]});
                    }
                }
            }
            next = new int[flags.size()];
            for (int i = 0; i < next.length; i++) {
                next[i] = step(flags.get(i));
            }
        }

        private int step(int[] flag) {
            int[] line = {flag[1], flag[2], flag[3]};
            int point = flag[0];
            for (int i = 0; i < points.size(); i++) {
                if (i != flag[0] && dot(points.get(i), line) == 0) {
                    point = i;
                }
            }
            int same = -1;
            for (int i = 0; i < flags.size(); i++) {
                int[] other = flags.get(i);
                if (other[0] == point) {
                    if (other[1] != flag[1] || other[2] != flag[2] || other[3] != flag[3]) {
                        return i;
                    }
                    same = i;
                }
            }
            return same;
        }

        int go(int i, int n) {
            int at = i;
            for (int k = 0; k < n; k++) {
                at = next[at];
            }
            return at;
        }

        int[] chord(int i, int k) {
            int from = flags.get(i)[0];
            int to = flags.get(go(i, k))[0];
            for (int[] line : triples) {
                if (dot(line, points.get(from)) == 0 && dot(line, points.get(to)) == 0
                    && (from != to || bothSides(cofactors(c), line) == 0)) {
                    return line;
                }
            }
            throw new IllegalStateException("no chord");
        }

        int byFirst(int i) {
            return i > 3 ? 0 : mod((long) cubic[i] * inverse(cubic[0]));
        }

        int[] series() {
            int[] s = new int[32];
            s[0] = 1;
            for (int k = 1; k < 32; k++) {
                int want = byFirst(k);
                boolean fits = false;
                for (int x = 0; x < p && !fits; x++) {
                    s[k] = x;
                    long sum = 0;
                    for (int i = 0; i <= k; i++) {
                        sum += (long) s[i] * s[k - i];
                    }
                    fits = mod(sum) == want;
                }
            }
            return s;
        }

        /** Of whole numbers, without a field, so that no way of dividing is shared with the class. */
        int determinant(int[] s, int n) {
            int m = n / 2;
            int rows = n % 2 == 1 ? m : m - 1;
            BigInteger[][] a = new BigInteger[rows][rows];
            for (int i = 0; i < rows; i++) {
                for (int j = 0; j < rows; j++) {
                    a[i][j] = BigInteger.valueOf(s[(n % 2 == 1 ? 2 : 3) + i + j]);
                }
            }
            BigInteger before = BigInteger.ONE;
            int sign = 1;
            for (int k = 0; k < rows - 1; k++) {
                int pivot = k;
                while (pivot < rows && a[pivot][k].signum() == 0) {
                    pivot++;
                }
                if (pivot == rows) {
                    return 0;
                }
                if (pivot != k) {
                    BigInteger[] held = a[k];
                    a[k] = a[pivot];
                    a[pivot] = held;
                    sign = -sign;
                }
                for (int i = k + 1; i < rows; i++) {
                    for (int j = k + 1; j < rows; j++) {
                        a[i][j] = a[i][j].multiply(a[k][k]).subtract(a[i][k].multiply(a[k][j])).divide(before);
                    }
                }
                before = a[k][k];
            }
            return a[rows - 1][rows - 1].multiply(BigInteger.valueOf(sign)).mod(BigInteger.valueOf(p)).intValue();
        }

        int up(int t) {
            return mod(byFirst(0) + (long) byFirst(1) * t + (long) byFirst(2) * t * t + (long) byFirst(3) * t * t * t);
        }

        int countCurve() {
            int count = 1;
            for (int t = 0; t < p; t++) {
                int square = up(t);
                for (int y = 0; y < p; y++) {
                    count += y * y % p == square ? 1 : 0;
                }
            }
            return count;
        }

        /** The third point on the line through a point and ONE, turned over; null is nought. */
        int[] addOne(int[] at) {
            if (at == null) {
                return new int[] {0, 1};
            }
            if (at[0] == 0 && at[1] == p - 1) {
                return null;
            }
            for (int slope = 0; slope < p; slope++) {
                if (mod(1 + (long) slope * at[0]) != at[1]) {
                    continue;
                }
                // The cubic less the line's square, by t once: its other two roots are those of at and the third.
                int c3 = byFirst(3);
                int c2 = mod(byFirst(2) - (long) slope * slope);
                int c1 = mod(byFirst(1) - 2L * slope);
                int left = mod(c3 * at[0] + c2);
                if (mod((long) left * at[0] + c1) != 0) {
                    continue;
                }
                int t = mod((long) -left * inverse(c3));
                return new int[] {t, mod(-(1 + (long) slope * t))};
            }
            throw new IllegalStateException("no line");
        }
    }
}
