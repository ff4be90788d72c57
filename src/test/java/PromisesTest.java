/**
 * Each promise of the document by itself: ordinary inputs, the edges that it names, wrong inputs.
 *
 * EDGES is a pair over 5 that has them all: points at z 0 and the last one, points with no, one and two flags,
 * lines at w 0 and the last one, a flag whose line meets OUTER but once, two rings, a multiple with y 0.
 */
public final class PromisesTest {
    private static final int NONE = -6, UNKNOWN = -1, OUTSIDE = -2, NO = -5;
    private static final int LOW = Integer.MIN_VALUE, HIGH = Integer.MAX_VALUE;
    private static int promise;
    private static int wrong = 0;
    private static int asked = 0;

    private static void due(String call, int got, int want) {
        asked++;
        if (got != want) {
            wrong++;
            System.out.println("promise " + promise + ": " + call + " answered " + got + ", due is " + want);
        }
    }

    private static ChordRings pair(int p, int[] c, int[] d) {
        ChordRings x = new ChordRings();
        x.field(p);
        x.round(0, c[0], c[1], c[2], c[3], c[4], c[5]);
        x.round(1, d[0], d[1], d[2], d[3], d[4], d[5]);
        return x;
    }

    private static ChordRings edges() {
        return pair(5, new int[] {0, 4, 0, 0, 4, 2}, new int[] {0, 3, 2, 4, 2, 0});
    }

    /** Rings of 205 steps: no least n, and long ways round. */
    private static ChordRings longOne() {
        return pair(199, new int[] {1, 1, 198, 0, 0, 0}, new int[] {3, 5, 180, 1, 2, 7});
    }

    public static void main(String[] args) {
        promise = 1;
        newObject();
        promise = 2;
        field();
        promise = 3;
        round();
        promise = 4;
        given();
        promise = 5;
        work();
        promise = 6;
        root();
        promise = 7;
        cubic();
        promise = 8;
        good();
        promise = 9;
        on();
        promise = 10;
        touches();
        promise = 11;
        points();
        promise = 12;
        point();
        promise = 13;
        flags();
        promise = 14;
        flag();
        promise = 15;
        go();
        promise = 16;
        ring();
        promise = 17;
        rings();
        promise = 18;
        series();
        promise = 19;
        determinant();
        promise = 20;
        closes();
        promise = 21;
        least();
        promise = 22;
        multiple();
        promise = 23;
        order();
        promise = 24;
        curve();
        promise = 25;
        chord();
        promise = 26;
        all();
        System.out.println(asked + " calls, " + wrong + " answers are not as due");
        if (wrong != 0) {
            System.exit(1);
        }
    }

    private static void newObject() {
        ChordRings x = new ChordRings();
        int[] first = {1, 1, 6, 0, 0, 0};
        for (int i = 0; i < 6; i++) {
            due("given(0, i)", x.given(0, i), first[i]);
            due("given(1, i)", x.given(1, i), first[i]);
        }
        due("work(0, 6, 6)", x.work(0, 6, 6), 5);
        due("work(0, 7, 0)", x.work(0, 7, 0), OUTSIDE);
        due("good()", x.good(), 0);
        due("field(11)", x.field(11), 7);
        due("another object's given", new ChordRings().given(0, 2), 6);
    }

    private static void field() {
        ChordRings x = new ChordRings();
        int[] refused = {LOW, -7, -5, 0, 1, 2, 3, 4, 6, 9, 15, 25, 49, 121, 143, 169, 187, 195, 198, 200, 201, 211, HIGH};
        for (int p : refused) {
            due("field(" + p + ")", x.field(p), OUTSIDE);
        }
        due("field(5)", x.field(5), 7);
        due("field(199)", x.field(199), 5);
        due("field(197)", x.field(197), 199);
        due("given(0, 2)", x.given(0, 2), 196);
        x = edges();
        due("field(4)", x.field(4), OUTSIDE);
        due("given(0, 5) after a refusal", x.given(0, 5), 2);
        due("flags() after a refusal", x.flags(), 8);
        due("field(5)", x.field(5), 5);
        int[] first = {1, 1, 4, 0, 0, 0};
        for (int i = 0; i < 6; i++) {
            due("given(0, i)", x.given(0, i), first[i]);
            due("given(1, i)", x.given(1, i), first[i]);
        }
        due("good()", x.good(), 0);
        due("flags()", x.flags(), NO);
    }

    private static void round() {
        ChordRings x = edges();
        due("flags()", x.flags(), 8);
        due("round(-1, ..)", x.round(-1, 1, 1, 1, 1, 1, 1), OUTSIDE);
        due("round(2, ..)", x.round(2, 1, 1, 1, 1, 1, 1), OUTSIDE);
        for (int bad : new int[] {-1, 5, LOW, HIGH}) {
            for (int which = 0; which < 2; which++) {
                due("a", x.round(which, bad, 1, 1, 1, 1, 1), OUTSIDE);
                due("b", x.round(which, 1, bad, 1, 1, 1, 1), OUTSIDE);
                due("c", x.round(which, 1, 1, bad, 1, 1, 1), OUTSIDE);
                due("d", x.round(which, 1, 1, 1, bad, 1, 1), OUTSIDE);
                due("e", x.round(which, 1, 1, 1, 1, bad, 1), OUTSIDE);
                due("f", x.round(which, 1, 1, 1, 1, 1, bad), OUTSIDE);
            }
        }
        due("flags() after refusals", x.flags(), 8);
        due("given(0, 0) after refusals", x.given(0, 0), 0);
        due("given(1, 1) after refusals", x.given(1, 1), 3);
        due("round(0, the same)", x.round(0, 0, 4, 0, 0, 4, 2), 1);
        due("round(1, noughts)", x.round(1, 0, 0, 0, 0, 0, 0), 1);
        due("flags() with noughts", x.flags(), NO);
        due("order() with noughts", x.order(), NO);
        due("series(1) with noughts", x.series(1), NO);
        due("round(1, as it was)", x.round(1, 0, 3, 2, 4, 2, 0), 1);
        due("flags() again", x.flags(), 8);
        due("round(1, 1, 2, 2, 0, 3, 1)", x.round(1, 1, 2, 2, 0, 3, 1), 1);
        due("cubic(0) anew", x.cubic(0), 4);
    }

    private static void given() {
        ChordRings x = new ChordRings();
        x.round(0, 1, 2, 3, 4, 5, 6);
        x.round(1, 6, 5, 4, 3, 2, 1);
        for (int i = 0; i < 6; i++) {
            due("given(0, " + i + ")", x.given(0, i), i + 1);
            due("given(1, " + i + ")", x.given(1, i), 6 - i);
        }
        for (int bad : new int[] {-1, 6, LOW, HIGH}) {
            due("given(0, bad)", x.given(0, bad), OUTSIDE);
            due("given(1, bad)", x.given(1, bad), OUTSIDE);
        }
        for (int bad : new int[] {-1, 2, LOW, HIGH}) {
            due("given(bad, 0)", x.given(bad, 0), OUTSIDE);
        }
    }

    private static void work() {
        ChordRings x = new ChordRings();
        due("work(0, 3, 4)", x.work(0, 3, 4), 0);
        due("work(0, 6, 0)", x.work(0, 6, 0), 6);
        due("work(1, 3, 5)", x.work(1, 3, 5), 1);
        due("work(1, 6, 0)", x.work(1, 6, 0), 0);
        due("work(2, 1, 3)", x.work(2, 1, 3), 5);
        due("work(2, 6, 4)", x.work(2, 6, 4), 5);
        due("work(2, 0, 4)", x.work(2, 0, 4), 0);
        due("work(2, 0, 0)", x.work(2, 0, 0), OUTSIDE);
        due("work(2, 5, 0)", x.work(2, 5, 0), OUTSIDE);
        for (int bad : new int[] {-1, 7, LOW, HIGH}) {
            for (int what = 0; what < 3; what++) {
                due("work(" + what + ", bad, 1)", x.work(what, bad, 1), OUTSIDE);
                due("work(" + what + ", 1, bad)", x.work(what, 1, bad), OUTSIDE);
            }
        }
        for (int bad : new int[] {-1, 3, LOW, HIGH}) {
            due("work(bad, 1, 1)", x.work(bad, 1, 1), OUTSIDE);
        }
        x.field(199);
        due("work(1, 198, 198) over 199", x.work(1, 198, 198), 1);
        due("work(2, 1, 198) over 199", x.work(2, 1, 198), 198);
    }

    private static void root() {
        ChordRings x = new ChordRings();
        int[] roots = {0, 1, 3, NONE, 2, NONE, NONE};
        for (int i = 0; i < 7; i++) {
            due("root(" + i + ")", x.root(i), roots[i]);
        }
        for (int bad : new int[] {-1, 7, LOW, HIGH}) {
            due("root(bad)", x.root(bad), OUTSIDE);
        }
        x.field(5);
        due("root(4) over 5", x.root(4), 2);
        due("root(2) over 5", x.root(2), NONE);
        due("root(5) over 5", x.root(5), OUTSIDE);
        x.field(13);
        due("root(12) over 13", x.root(12), 5);
    }

    private static void cubic() {
        ChordRings x = edges();
        int[] parts = {3, 3, 4, 1, 3};
        for (int i = 0; i < 5; i++) {
            due("cubic(" + i + ")", x.cubic(i), parts[i]);
        }
        for (int bad : new int[] {-1, 5, LOW, HIGH}) {
            due("cubic(bad)", x.cubic(bad), OUTSIDE);
        }
        // Of a new object it is the determinant -1 of both, times (t + 1) three times.
        x = new ChordRings();
        int[] first = {6, 4, 4, 6, 0};
        for (int i = 0; i < 5; i++) {
            due("cubic(" + i + ") at first", x.cubic(i), first[i]);
        }
        // C without a determinant: (t + 1) (t + 3), so c3 is 0.
        x.round(0, 1, 1, 0, 0, 0, 0);
        x.round(1, 1, 3, 1, 0, 0, 0);
        int[] flat = {3, 4, 1, 0, 4};
        for (int i = 0; i < 5; i++) {
            due("cubic(" + i + ") with c3 0", x.cubic(i), flat[i]);
        }
        x.round(1, 0, 0, 0, 0, 0, 0);
        for (int i = 0; i < 5; i++) {
            due("cubic(" + i + ") with D 0", x.cubic(i), 0);
        }
    }

    private static void good() {
        due("good()", edges().good(), 1);
        ChordRings x = new ChordRings();
        due("good() of a new object", x.good(), 0);
        // Diagonals: the roots are the quotients of their numbers.
        x.round(0, 1, 1, 1, 0, 0, 0);
        x.round(1, 1, 2, 3, 0, 0, 0);
        due("good() with roots apart", x.good(), 1);
        x.round(1, 1, 2, 2, 0, 0, 0);
        due("good() with a root twice", x.good(), 0);
        x.round(1, 0, 2, 3, 0, 0, 0);
        due("good() with c0 0", x.good(), 0);
        x.round(1, 1, 2, 3, 0, 0, 0);
        x.round(0, 1, 1, 0, 0, 0, 0);
        due("good() with c3 0", x.good(), 0);
    }

    private static void on() {
        ChordRings x = new ChordRings();
        x.round(0, 1, 2, 3, 4, 5, 6);
        x.round(1, 0, 0, 0, 1, 0, 0);
        due("on(1, 0, 1, 0, 0)", x.on(1, 0, 1, 0, 0), 1);
        due("on(1, 0, 0, 1, 0)", x.on(1, 0, 0, 1, 0), 2);
        due("on(1, 0, 0, 0, 1)", x.on(1, 0, 0, 0, 1), 3);
        due("on(1, 0, 0, 1, 1)", x.on(1, 0, 0, 1, 1), 6);
        due("on(1, 0, 1, 0, 1)", x.on(1, 0, 1, 0, 1), 0);
        due("on(1, 0, 1, 1, 0)", x.on(1, 0, 1, 1, 0), 1);
        due("on(2, 3, 0, 1, 1)", x.on(2, 3, 0, 1, 1), 4);
        due("on(0, 0, 1, 2, 3)", x.on(0, 0, 1, 2, 3), 0);
        due("on a point times 2", x.on(2, 3, 0, 2, 2), 2);
        for (int bad : new int[] {-1, 7, LOW, HIGH}) {
            due("on(bad, ..)", x.on(bad, 1, 1, 1, 1), OUTSIDE);
            due("on(1, bad, ..)", x.on(1, bad, 1, 1, 1), OUTSIDE);
            due("on(1, 1, bad, ..)", x.on(1, 1, bad, 1, 1), OUTSIDE);
            due("on(.., bad, 1)", x.on(1, 1, 1, bad, 1), OUTSIDE);
            due("on(.., bad)", x.on(1, 1, 1, 1, bad), OUTSIDE);
        }
    }

    private static void touches() {
        ChordRings x = new ChordRings();
        // The cofactors of rows 1 6 5, 6 2 4, 5 4 3 over 7 are those of 1 -1 -2, -1 2 -3, -2 -3 3: -3 2 0, 2 -1 5, 0 5 1.
        x.round(0, 1, 2, 3, 4, 5, 6);
        due("touches(1, 0, 1, 0, 0)", x.touches(1, 0, 1, 0, 0), 4);
        due("touches(1, 0, 0, 1, 0)", x.touches(1, 0, 0, 1, 0), 6);
        due("touches(1, 0, 0, 0, 1)", x.touches(1, 0, 0, 0, 1), 1);
        due("touches(1, 0, 1, 1, 0)", x.touches(1, 0, 1, 1, 0), 0);
        due("touches(1, 0, 0, 1, 1)", x.touches(1, 0, 0, 1, 1), 3);
        due("touches(1, 0, 1, 0, 1)", x.touches(1, 0, 1, 0, 1), 5);
        due("touches of the matrix times 2", x.touches(2, 0, 0, 1, 1), 5);
        due("touches(0, 1, 1, 0, 1)", x.touches(0, 1, 1, 0, 1), 0);
        due("touches(0, 0, 1, 2, 3)", x.touches(0, 0, 1, 2, 3), 0);
        for (int bad : new int[] {-1, 7, LOW, HIGH}) {
            due("touches(bad, ..)", x.touches(bad, 1, 1, 1, 1), OUTSIDE);
            due("touches(1, bad, ..)", x.touches(1, bad, 1, 1, 1), OUTSIDE);
            due("touches(1, 1, bad, ..)", x.touches(1, 1, bad, 1, 1), OUTSIDE);
            due("touches(.., bad, 1)", x.touches(1, 1, 1, bad, 1), OUTSIDE);
            due("touches(.., bad)", x.touches(1, 1, 1, 1, bad), OUTSIDE);
        }
    }

    private static void points() {
        due("points()", edges().points(), 6);
        due("points()", longOne().points(), 200);
        due("points() without a good pair", new ChordRings().points(), NO);
    }

    private static void point() {
        ChordRings x = edges();
        int[][] points = {{0, 0, 1, 2}, {3, 1, 1, 1}, {4, 2, 1, 0}, {4, 4, 1, 2}, {4, 1, 0, 2}, {1, 0, 0, 1}};
        for (int i = 0; i < 6; i++) {
            for (int what = 0; what < 4; what++) {
                due("point(" + i + ", " + what + ")", x.point(i, what), points[i][what]);
            }
        }
        for (int bad : new int[] {-1, 6, LOW, HIGH}) {
            due("point(bad, 0)", x.point(bad, 0), UNKNOWN);
            due("point(bad, 4)", x.point(bad, 4), UNKNOWN);
        }
        for (int bad : new int[] {-1, 4, LOW, HIGH}) {
            due("point(0, bad)", x.point(0, bad), OUTSIDE);
        }
        due("point(-1, -1) without a good pair", new ChordRings().point(-1, -1), NO);
    }

    private static void flags() {
        due("flags()", edges().flags(), 8);
        due("flags()", longOne().flags(), 205);
        due("flags() without a good pair", new ChordRings().flags(), NO);
    }

    private static void flag() {
        ChordRings x = edges();
        int[][] flags = {
            {0, 4, 1, 0, 3, 1}, {0, 1, 0, 0, 0, 4}, {1, 1, 1, 1, 5, 6}, {3, 2, 4, 1, 4, 0},
            {3, 4, 1, 0, 1, 3}, {4, 0, 0, 1, 7, 2}, {4, 1, 1, 1, 2, 7}, {5, 0, 0, 1, 6, 5},
        };
        for (int i = 0; i < 8; i++) {
            for (int what = 0; what < 6; what++) {
                due("flag(" + i + ", " + what + ")", x.flag(i, what), flags[i][what]);
            }
        }
        for (int bad : new int[] {-1, 8, LOW, HIGH}) {
            due("flag(bad, 0)", x.flag(bad, 0), UNKNOWN);
            due("flag(bad, 6)", x.flag(bad, 6), UNKNOWN);
        }
        for (int bad : new int[] {-1, 6, LOW, HIGH}) {
            due("flag(0, bad)", x.flag(0, bad), OUTSIDE);
        }
        due("flag(-1, -1) without a good pair", new ChordRings().flag(-1, -1), NO);
    }

    private static void go() {
        ChordRings x = edges();
        int[] way = {0, 3, 4, 1, 0, 3, 4, 1, 0};
        for (int n = 0; n < way.length; n++) {
            due("go(0, " + n + ")", x.go(0, n), way[n]);
        }
        due("go(2, 3)", x.go(2, 3), 6);
        due("go(2, 99999)", x.go(2, 99999), 6);
        due("go(2, 100000)", x.go(2, 100000), 2);
        for (int bad : new int[] {-1, 100001, LOW, HIGH}) {
            due("go(0, bad)", x.go(0, bad), OUTSIDE);
        }
        for (int bad : new int[] {-1, 8, LOW, HIGH}) {
            due("go(bad, 0)", x.go(bad, 0), UNKNOWN);
            due("go(bad, -1)", x.go(bad, -1), UNKNOWN);
        }
        due("go(-1, -1) without a good pair", new ChordRings().go(-1, -1), NO);
        due("go(1, 99999) of a long ring", longOne().go(1, 99999), 0);
    }

    private static void ring() {
        ChordRings x = edges();
        for (int i = 0; i < 8; i++) {
            due("ring(" + i + ")", x.ring(i), 4);
        }
        for (int bad : new int[] {-1, 8, LOW, HIGH}) {
            due("ring(bad)", x.ring(bad), UNKNOWN);
        }
        due("ring(204)", longOne().ring(204), 205);
        due("ring(-1) without a good pair", new ChordRings().ring(-1), NO);
    }

    private static void rings() {
        due("rings()", edges().rings(), 2);
        due("rings()", longOne().rings(), 1);
        due("rings() without a good pair", new ChordRings().rings(), NO);
    }

    private static void series() {
        // By c0 the cubic is 1 + t + 3 t t + 2 t t t over 5.
        ChordRings x = edges();
        int[] s = {1, 3, 2, 0, 3};
        for (int k = 0; k < s.length; k++) {
            due("series(" + k + ")", x.series(k), s[k]);
        }
        int square31 = 0;
        for (int i = 0; i <= 31; i++) {
            square31 += x.series(i) * x.series(31 - i);
        }
        due("place 31 of the square", square31 % 5, 0);
        for (int bad : new int[] {-1, 32, LOW, HIGH}) {
            due("series(bad)", x.series(bad), OUTSIDE);
        }
        due("series(-1) without a good pair", new ChordRings().series(-1), NO);
    }

    private static void determinant() {
        ChordRings x = edges();
        due("determinant(3)", x.determinant(3), x.series(2));
        due("determinant(4)", x.determinant(4), x.series(3));
        int five = x.series(2) * x.series(4) - x.series(3) * x.series(3);
        due("determinant(5)", x.determinant(5), Math.floorMod(five, 5));
        int six = x.series(3) * x.series(5) - x.series(4) * x.series(4);
        due("determinant(6)", x.determinant(6), Math.floorMod(six, 5));
        due("determinant(31) is not 0", x.determinant(31) != 0 ? 1 : 0, 1);
        due("determinant(28)", x.determinant(28), 0);
        for (int bad : new int[] {-1, 0, 1, 2, 32, LOW, HIGH}) {
            due("determinant(bad)", x.determinant(bad), OUTSIDE);
        }
        due("determinant(2) without a good pair", new ChordRings().determinant(2), NO);
    }

    private static void closes() {
        ChordRings x = edges();
        for (int n = 1; n <= 31; n++) {
            due("closes(" + n + ")", x.closes(n), n % 4 == 0 ? 1 : 0);
        }
        for (int bad : new int[] {-1, 0, 32, LOW, HIGH}) {
            due("closes(bad)", x.closes(bad), OUTSIDE);
        }
        due("closes(0) without a good pair", new ChordRings().closes(0), NO);
    }

    private static void least() {
        due("least()", edges().least(), 4);
        due("least() of rings of 205", longOne().least(), NONE);
        ChordRings three = pair(5, new int[] {0, 1, 1, 2, 0, 3}, new int[] {2, 3, 1, 1, 0, 0});
        due("least() of rings of 3", three.least(), 3);
        ChordRings last = pair(23, new int[] {2, 3, 6, 20, 22, 15}, new int[] {0, 13, 19, 1, 6, 5});
        due("least() of rings of 31", last.least(), 31);
        ChordRings beyond = pair(23, new int[] {5, 20, 15, 15, 1, 9}, new int[] {20, 0, 5, 10, 1, 8});
        due("least() of rings of 32", beyond.least(), NONE);
        due("order() of rings of 32", beyond.order(), 32);
        due("least() without a good pair", new ChordRings().least(), NO);
    }

    private static void multiple() {
        ChordRings x = edges();
        int[][] multiples = {{NONE, NONE}, {0, 1}, {3, 0}, {0, 4}};
        for (int k = 0; k <= 1000; k += k < 12 ? 1 : 19) {
            due("multiple(" + k + ", 0)", x.multiple(k, 0), multiples[k % 4][0]);
            due("multiple(" + k + ", 1)", x.multiple(k, 1), multiples[k % 4][1]);
        }
        due("multiple(1000, 1)", x.multiple(1000, 1), NONE);
        for (int bad : new int[] {-1, 1001, LOW, HIGH}) {
            due("multiple(bad, 0)", x.multiple(bad, 0), OUTSIDE);
        }
        for (int bad : new int[] {-1, 2, LOW, HIGH}) {
            due("multiple(0, bad)", x.multiple(0, bad), OUTSIDE);
            due("multiple(1, bad)", x.multiple(1, bad), OUTSIDE);
        }
        due("multiple(-1, -1) without a good pair", new ChordRings().multiple(-1, -1), NO);
        due("multiple(1000, 0) of a long ring", longOne().multiple(1000, 0), 123);
    }

    private static void order() {
        due("order()", edges().order(), 4);
        due("order()", longOne().order(), 205);
        due("order() without a good pair", new ChordRings().order(), NO);
    }

    private static void curve() {
        due("curve()", edges().curve(), 8);
        due("curve()", longOne().curve(), 205);
        due("curve() without a good pair", new ChordRings().curve(), NO);
    }

    private static void chord() {
        ChordRings x = edges();
        // Flag 0 goes by the points 0, 3, 3, 0: over 3 and 4 steps, as over none, the line that touches at point 0.
        int[][] chords = {{1, 0, 0, 1}, {4, 1, 0, 1}, {4, 1, 0, 1}, {1, 0, 0, 1}, {1, 0, 0, 1}};
        for (int k = 0; k < chords.length; k++) {
            for (int what = 0; what < 4; what++) {
                due("chord(0, " + k + ", " + what + ")", x.chord(0, k, what), chords[k][what]);
            }
        }
        due("chord(7, 0, 2), the line that touches at the last point", x.chord(7, 0, 2), 1);
        for (int i = 0; i < 8; i++) {
            due("chord(i, 1, 0) is the flag's line", x.chord(i, 1, 0), x.flag(i, 1));
            due("chord(i, 1, 1) is the flag's line", x.chord(i, 1, 1), x.flag(i, 2));
            due("chord(i, 1, 2) is the flag's line", x.chord(i, 1, 2), x.flag(i, 3));
            for (int k : new int[] {0, 1, 2, 3, 4, 998, 999, 1000}) {
                due("chord(i, " + k + ", 3)", x.chord(i, k, 3), 1);
            }
        }
        for (int bad : new int[] {-1, 1001, LOW, HIGH}) {
            due("chord(0, bad, 0)", x.chord(0, bad, 0), OUTSIDE);
        }
        for (int bad : new int[] {-1, 4, LOW, HIGH}) {
            due("chord(0, 0, bad)", x.chord(0, 0, bad), OUTSIDE);
        }
        for (int bad : new int[] {-1, 8, LOW, HIGH}) {
            due("chord(bad, 0, 0)", x.chord(bad, 0, 0), UNKNOWN);
            due("chord(bad, -1, 4)", x.chord(bad, -1, 4), UNKNOWN);
        }
        due("chord(-1, -1, -1) without a good pair", new ChordRings().chord(-1, -1, -1), NO);
    }

    private static void all() {
        ChordRings x = edges();
        due("all(0, 1, 0)", x.all(0, 1, 0), 8);
        due("all(1, 0, 1)", x.all(1, 0, 1), 8);
        due("all(2, 3, 1)", x.all(2, 3, 1), 8);
        due("all(2, 1, 2)", x.all(2, 1, 2), 8);
        due("all(1000, 1, 0)", x.all(1000, 1, 0), 8);
        for (int s = 0; s < 5; s++) {
            for (int k = 0; k < 4; k++) {
                int count = 0;
                for (int i = 0; i < 8; i++) {
                    int touch = x.touches(s, 1, x.chord(i, k, 0), x.chord(i, k, 1), x.chord(i, k, 2));
                    count += touch == 0 ? 1 : 0;
                }
                due("all(" + k + ", " + s + ", 1)", edges().all(k, s, 1), count);
            }
            x = edges();
        }
        for (int bad : new int[] {-1, 1001, LOW, HIGH}) {
            due("all(bad, 1, 0)", x.all(bad, 1, 0), OUTSIDE);
        }
        for (int bad : new int[] {-1, 5, LOW, HIGH}) {
            due("all(0, bad, 1)", x.all(0, bad, 1), OUTSIDE);
            due("all(0, 1, bad)", x.all(0, 1, bad), OUTSIDE);
        }
        due("all(0, 0, 0)", x.all(0, 0, 0), OUTSIDE);
        due("all(-1, 0, 0) without a good pair", new ChordRings().all(-1, 0, 0), NO);
    }
}
