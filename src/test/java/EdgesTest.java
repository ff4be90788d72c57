/**
 * Each sentence of the document that names a boundary, in a method of its own: the least and the greatest number that
 * is taken and the next one beyond on each side, the first and the last POINT and FLAG and the number behind the last,
 * what is empty or full, what wraps around, and PAIRS that are not GOOD.
 *
 * The answers that are due were worked out by a search of their own, not by the class.
 */
public final class EdgesTest {
    private static final int NONE = -6, UNKNOWN = -1, OUTSIDE = -2, NO = -5;
    private static final int[] ENDS_OF_PRIMES = {5, 7, 199};

    /** Over 5: 6 POINTS, the last one of the plane among them; 8 FLAGS in two rings of 4. */
    private static final int[][] EDGES = {{5}, {0, 4, 0, 0, 4, 2}, {0, 3, 2, 4, 2, 0}};
    /** Over 5: two POINTS with the same y, two with z 0; 9 FLAGS in one ring; no NUMBER is a root of THE CUBIC. */
    private static final int[][] LEVELS = {{5}, {2, 1, 0, 1, 3, 4}, {0, 0, 1, 3, 0, 4}};
    /** Over 5: 3 FLAGS, the fewest that any PAIR has. */
    private static final int[][] FEWEST = {{5}, {1, 3, 4, 3, 2, 2}, {4, 3, 2, 4, 3, 0}};
    /** Over 5: 10 FLAGS in one ring, the most over 5. */
    private static final int[][] FULL = {{5}, {0, 0, 0, 2, 3, 2}, {0, 3, 3, 3, 4, 2}};
    /** Over 199: 228 FLAGS in one ring, the most that any PAIR has. */
    private static final int[][] MOST = {{199}, {143, 50, 90, 54, 127, 56}, {76, 111, 65, 126, 1, 59}};
    /** Over 199: 228 FLAGS in 76 rings of 3. */
    private static final int[][] MANY_RINGS = {{199}, {51, 33, 43, 166, 197, 100}, {84, 87, 121, 138, 34, 113}};
    private static final int[][] RINGS_OF_31 = {{23}, {2, 3, 6, 20, 22, 15}, {0, 13, 19, 1, 6, 5}};
    private static final int[][] RINGS_OF_32 = {{23}, {5, 20, 15, 15, 1, 9}, {20, 0, 5, 10, 1, 8}};

    private static String sentence = "";
    private static int sentences = 0;
    private static int asked = 0;
    private static int wrong = 0;

    /** A call with one number left open. */
    private interface Call {
        int of(ChordRings x, int n);
    }

    private static void sentence(String words) {
        sentence = words;
        sentences++;
    }

    private static void due(String call, int got, int want) {
        asked++;
        if (got != want) {
            wrong++;
            System.out.println("\"" + sentence + "\": " + call + " answered " + got + ", due is " + want);
        }
    }

    private static void refused(String call, ChordRings x, Call open, int refusal, int... numbers) {
        for (int n : numbers) {
            due(call.replace("#", "" + n), open.of(x, n), refusal);
        }
    }

    /** The number may be least to most: both are answered as due, the next ones and the ends of int are refused. */
    private static void bounds(String call, ChordRings x, Call open, int[] leastAndMost, int[] answers, int refusal) {
        for (int end = 0; end < 2; end++) {
            due(call.replace("#", "" + leastAndMost[end]), open.of(x, leastAndMost[end]), answers[end]);
        }
        refused(call, x, open, refusal, leastAndMost[0] - 1, leastAndMost[1] + 1, Integer.MIN_VALUE, Integer.MAX_VALUE);
    }

    private static int[] two(int first, int second) {
        return new int[] {first, second};
    }

    private static ChordRings of(int[][] pair) {
        ChordRings x = new ChordRings();
        x.field(pair[0][0]);
        take(x, 0, pair[1]);
        take(x, 1, pair[2]);
        return x;
    }

    private static int take(ChordRings x, int which, int... six) {
        return x.round(which, six[0], six[1], six[2], six[3], six[4], six[5]);
    }

    private static ChordRings over(int p) {
        ChordRings x = new ChordRings();
        x.field(p);
        return x;
    }

    /** Rounds without d, e, f: the roots of THE CUBIC are then the quotients of their numbers, turned over. */
    private static ChordRings diagonal(int p, int[] outer, int[] inner) {
        ChordRings x = over(p);
        x.round(0, outer[0], outer[1], outer[2], 0, 0, 0);
        x.round(1, inner[0], inner[1], inner[2], 0, 0, 0);
        return x;
    }

    public static void main(String[] args) {
        terms();
        theField();
        pointsAndFlags();
        seriesAndCurve();
        System.out.println(sentences + " sentences, " + asked + " calls, " + wrong + " answers are not as due");
        if (wrong != 0) {
            System.exit(1);
        }
    }

    private static void terms() {
        lastCall();
        wrapAround();
        orderOfPoints();
        orderOfLines();
        sameTimesANumber();
        roundsAtFirst();
        goodIfEndsAreNotNought();
        goodIfNoRootTwice();
        noWithoutGood();
        partOneWithoutGood();
        countOfPoints();
        oneFlagAtLeast();
        stepToTheSamePoint();
        stepWithTheSameLine();
        ringsEnd();
        smallestAndLargestDeterminants();
        oneAndTwoNeverClose();
        linesThatTouchTheCurve();
        oppositePoints();
        multipleOfNought();
        chordsOfOnePoint();
        skipsOfNought();
    }

    private static void theField() {
        newObject();
        field();
        fieldStartsAgain();
        round();
        roundOfOtherPrime();
        roundChangesWhatHangsOnIt();
        given();
        work();
        workByNought();
        root();
        rootOfNone();
        lesserRoot();
        cubic();
        discriminant();
        good();
        on();
        onNoughts();
        touches();
        touchesNoughts();
    }

    private static void pointsAndFlags() {
        points();
        pointUnknown();
        pointOutside();
        flags();
        flagUnknown();
        flagOutside();
        goUnknown();
        goOutside();
        goRound();
        ring();
        rings();
    }

    private static void seriesAndCurve() {
        series();
        determinant();
        closes();
        least();
        multiple();
        multipleIsNought();
        order();
        curve();
        chordUnknown();
        chordOutside();
        all();
        allOfNoughts();
    }

    // ---- Terms

    private static void lastCall() {
        sentence("An object is used for at most 512 calls after it has been made");
        ChordRings x = of(MOST);
        for (int call = 4; call < 512; call++) {
            due("call " + call + ", go(227, 228)", x.go(227, 228), 227);
        }
        due("call 512, chord(227, 1000, 0)", x.chord(227, 1000, 0), 130);
        x = over(5);
        for (int call = 2; call < 512; call += 2) {
            take(x, 0, call < 510 ? FULL[1] : EDGES[1]);
            take(x, 1, call < 510 ? FULL[2] : EDGES[2]);
        }
        due("call 512, flags() behind 510 rounds", x.flags(), 8);
        x = new ChordRings();
        for (int call = 1; call < 512; call++) {
            due("call " + call + ", field", x.field(call % 2 == 1 ? 199 : 5), call == 1 ? 7 : call % 2 == 1 ? 5 : 199);
        }
        due("call 512, work(0, 198, 2)", x.work(0, 198, 2), 1);
    }

    private static void wrapAround() {
        sentence("the NUMBERS 0 to p - 1, worked with as what is left by the prime p (5 to 199; 7 at first)");
        for (int p : ENDS_OF_PRIMES) {
            ChordRings x = p == 7 ? new ChordRings() : over(p);
            due("(p - 1) + 0", x.work(0, p - 1, 0), p - 1);
            due("(p - 1) + 1", x.work(0, p - 1, 1), 0);
            due("(p - 1) + (p - 1)", x.work(0, p - 1, p - 1), p - 2);
            due("(p - 1) (p - 1)", x.work(1, p - 1, p - 1), 1);
            due("1 by p - 1", x.work(2, 1, p - 1), p - 1);
            due("p is no NUMBER", x.work(0, p, 0), OUTSIDE);
        }
    }

    private static void orderOfPoints() {
        sentence("In order: by y, then x, those with z 1; then by x those with y 1; the last one");
        // Two with y 0, told by x; one with y 2 behind them; two with z 0, told by x.
        int[][] levels = {{0, 0, 1}, {2, 0, 1}, {2, 2, 1}, {0, 3, 1}, {2, 1, 0}, {4, 1, 0}};
        // One with z 0 and y 1, and the last of all.
        int[][] full = {{0, 0, 1}, {3, 2, 1}, {1, 3, 1}, {2, 4, 1}, {0, 1, 0}, {1, 0, 0}};
        for (int i = 0; i < 6; i++) {
            for (int what = 0; what < 3; what++) {
                due("LEVELS point(" + i + ", " + what + ")", of(LEVELS).point(i, what), levels[i][what]);
                due("FULL point(" + i + ", " + what + ")", of(FULL).point(i, what), full[i][what]);
            }
        }
    }

    private static void orderOfLines() {
        sentence("LINES u, v, w likewise");
        // At POINT 0 both have w 0, at 1 the second one; at 3 both have the same v, at 4 the greater u comes first.
        int[][] levels = {
            {0, 0, 1, 0, 2, 1}, {0, 3, 1, 0, 0, 3}, {1, 2, 1, 1, 8, 0}, {1, 0, 1, 0, 1, 7}, {2, 4, 3, 1, 5, 6},
            {3, 1, 3, 1, 7, 4}, {3, 4, 3, 1, 4, 8}, {4, 2, 1, 1, 3, 5}, {4, 1, 3, 1, 6, 2},
        };
        // At POINTS 0 and 4 the last LINE of all comes behind one with v 1 and one with w 1.
        int[][] full = {
            {0, 3, 1, 0, 5, 8}, {0, 1, 0, 0, 7, 6}, {1, 3, 0, 1, 8, 7}, {2, 3, 2, 1, 6, 9}, {2, 0, 3, 1, 9, 5},
            {3, 3, 2, 1, 4, 0}, {3, 3, 1, 0, 1, 3}, {4, 3, 0, 1, 2, 1}, {4, 1, 0, 0, 0, 2}, {5, 0, 3, 1, 3, 4},
        };
        for (int what = 0; what < 6; what++) {
            for (int i = 0; i < levels.length; i++) {
                due("LEVELS flag(" + i + ", " + what + ")", of(LEVELS).flag(i, what), levels[i][what]);
            }
            for (int i = 0; i < full.length; i++) {
                due("FULL flag(" + i + ", " + what + ")", of(FULL).flag(i, what), full[i][what]);
            }
        }
    }

    private static void sameTimesANumber() {
        sentence("POINTS of the plane are three NUMBERS x, y, z, not all 0, times a NUMBER they are the same");
        ChordRings x = of(LEVELS);
        for (int n = 1; n < 5; n++) {
            due("on, POINT 1 times " + n, x.on(1, 0, 2 * n % 5, 0, n), 0);
            due("touches, the LINE of FLAG 7 times " + n, x.touches(0, 1, 2 * n % 5, n, n), 0);
        }
        // 2 + 0 + 2 3, and that times 2 2.
        due("on, no POINT of OUTER", x.on(1, 0, 1, 0, 1), 3);
        due("on, the same times 2", x.on(1, 0, 2, 0, 2), 2);
    }

    private static void roundsAtFirst() {
        sentence("(at first both 1, 1, p - 1, 0, 0, 0)");
        for (int p : ENDS_OF_PRIMES) {
            int[] first = {1, 1, p - 1, 0, 0, 0};
            ChordRings x = p == 7 ? new ChordRings() : over(p);
            for (int i = 0; i < 6; i++) {
                due("given(0, " + i + ") over " + p, x.given(0, i), first[i]);
                due("given(1, " + i + ") over " + p, x.given(1, i), first[i]);
            }
        }
    }

    private static void goodIfEndsAreNotNought() {
        sentence("The PAIR is GOOD, if c0, c3 are not 0");
        int[] ones = {1, 1, 1};
        ChordRings x = diagonal(7, ones, new int[] {0, 2, 3});
        due("c0", x.cubic(0), 0);
        due("c3 is not 0", x.cubic(3), 1);
        due("no root is one twice", x.cubic(4) != 0 ? 1 : 0, 1);
        due("good() with c0 0", x.good(), 0);
        x = diagonal(7, new int[] {0, 2, 3}, ones);
        due("c0 is not 0", x.cubic(0), 1);
        due("c3", x.cubic(3), 0);
        due("no root is one twice", x.cubic(4) != 0 ? 1 : 0, 1);
        due("good() with c3 0", x.good(), 0);
        due("good() with both 0", diagonal(7, new int[] {0, 2, 3}, new int[] {1, 0, 4}).good(), 0);
        due("good() with c0, c3 1", diagonal(7, ones, new int[] {1, 2, 4}).good(), 1);
        x = diagonal(7, ones, new int[] {0, 0, 0});
        due("good() with D all 0", x.good(), 0);
        take(x, 1, 1, 2, 3, 0, 0, 0);
        take(x, 0, 0, 0, 0, 0, 0, 0);
        due("good() with C all 0", x.good(), 0);
    }

    private static void goodIfNoRootTwice() {
        sentence("and no number (of any wider field) is a root of it twice");
        int[] ones = {1, 1, 1};
        due("good(), a root twice", diagonal(7, ones, new int[] {1, 2, 2}).good(), 0);
        due("good(), a root three times", diagonal(7, ones, new int[] {2, 2, 2}).good(), 0);
        due("good(), both rounds the same", new ChordRings().good(), 0);
        due("good(), three roots apart", diagonal(7, ones, new int[] {1, 2, 3}).good(), 1);
        // No root and one root among the NUMBERS, the others in a wider field.
        due("good(), no root among the NUMBERS", of(LEVELS).good(), 1);
        due("good(), one root among the NUMBERS", of(FULL).good(), 1);
        for (int n = 0; n < 125; n++) {
            int a = n / 25, b = n / 5 % 5, c = n % 5;
            boolean good = a * b * c != 0 && a != b && b != c && a != c;
            due("good() over 5, 1 1 1 and " + a + " " + b + " " + c, diagonal(5, ones, new int[] {a, b, c}).good(),
                good ? 1 : 0);
        }
    }

    private static ChordRings[] pairsThatAreNotGood() {
        int[] ones = {1, 1, 1};
        return new ChordRings[] {
            new ChordRings(), over(5), over(199), diagonal(7, ones, new int[] {0, 2, 3}),
            diagonal(7, new int[] {0, 2, 3}, ones), diagonal(7, ones, new int[] {1, 2, 2}),
            diagonal(7, ones, new int[] {0, 0, 0}), diagonal(7, new int[] {0, 0, 0}, ones),
        };
    }

    private static void noWithoutGood() {
        sentence("all NO without a GOOD PAIR, ahead; NO, ahead, likewise");
        for (ChordRings x : pairsThatAreNotGood()) {
            due("points()", x.points(), NO);
            due("point(0, 0)", x.point(0, 0), NO);
            due("flags()", x.flags(), NO);
            due("flag(0, 0)", x.flag(0, 0), NO);
            due("go(0, 0)", x.go(0, 0), NO);
            due("ring(0)", x.ring(0), NO);
            due("rings()", x.rings(), NO);
            due("series(0)", x.series(0), NO);
            due("determinant(3)", x.determinant(3), NO);
            due("closes(1)", x.closes(1), NO);
            due("least()", x.least(), NO);
            due("multiple(0, 0)", x.multiple(0, 0), NO);
            due("order()", x.order(), NO);
            due("curve()", x.curve(), NO);
            due("chord(0, 0, 0)", x.chord(0, 0, 0), NO);
            due("all(0, 1, 0)", x.all(0, 1, 0), NO);
        }
    }

    private static void partOneWithoutGood() {
        sentence("What asks for a GOOD one is NO else (and what does not ask for one is answered)");
        for (ChordRings x : pairsThatAreNotGood()) {
            due("good()", x.good(), 0);
            due("given(0, 5)", x.given(0, 5), 0);
            due("work(2, 4, 2)", x.work(2, 4, 2), 2);
            due("root(4)", x.root(4), 2);
            due("cubic(4) is told", x.cubic(4) >= 0 ? 1 : 0, 1);
            due("on(0, 0, 1, 1, 1)", x.on(0, 0, 1, 1, 1), 0);
            due("touches(0, 0, 1, 1, 1)", x.touches(0, 0, 1, 1, 1), 0);
            due("round(0, ..)", take(x, 0, 0, 0, 0, 0, 0, 0), 1);
        }
    }

    private static void countOfPoints() {
        sentence("POINTS of OUTER, in order, numbered from 0 on (p + 1 of them)");
        due("points() over 5", of(EDGES).points(), 6);
        due("points() over 23", of(RINGS_OF_31).points(), 24);
        due("points() over 199", of(MOST).points(), 200);
    }

    private static void oneFlagAtLeast() {
        sentence("by POINTS, then LINES, in order, numbered from 0 on (there is one at least)");
        ChordRings x = of(FEWEST);
        int[][] flags = {{2, 4, 4, 1, 1, 2}, {5, 1, 1, 1, 2, 0}, {5, 4, 4, 1, 0, 1}};
        due("flags()", x.flags(), 3);
        for (int i = 0; i < 3; i++) {
            for (int what = 0; what < 6; what++) {
                due("flag(" + i + ", " + what + ")", x.flag(i, what), flags[i][what]);
            }
        }
        due("flag(3, 0)", x.flag(3, 0), UNKNOWN);
        int[] last = {198, 88, 46, 1, 157, 115};
        x = of(MOST);
        due("flags()", x.flags(), 228);
        for (int what = 0; what < 6; what++) {
            due("flag(227, " + what + ")", x.flag(227, what), last[what]);
        }
        due("flag(228, 0)", x.flag(228, 0), UNKNOWN);
    }

    private static void stepToTheSamePoint() {
        sentence("its LINE's other POINT of OUTER (the same, if there is none)");
        // The LINE 1 0 0 meets OUTER of EDGES in 0 0 1 alone, 3 1 0 that of LEVELS.
        ChordRings x = of(EDGES);
        due("EDGES flag(1, 4)", x.flag(1, 4), 0);
        due("its POINT behind", x.flag(0, 0), x.flag(1, 0));
        due("EDGES flag(0, 5)", x.flag(0, 5), 1);
        x = of(LEVELS);
        due("LEVELS flag(1, 4)", x.flag(1, 4), 0);
        due("its POINT behind", x.flag(0, 0), x.flag(1, 0));
        due("LEVELS flag(0, 4), which has another POINT", x.flag(0, 4), 2);
    }

    private static void stepWithTheSameLine() {
        sentence("through that the other LINE that TOUCHES INNER (the same, if there is none)");
        ChordRings x = of(EDGES);
        due("EDGES point(1, 3)", x.point(1, 3), 1);
        due("EDGES flag(6, 4)", x.flag(6, 4), 2);
        due("EDGES flag(2, 5)", x.flag(2, 5), 6);
        due("EDGES flag(2, 4)", x.flag(2, 4), 5);
        due("EDGES flag(5, 4), at the last POINT of all", x.flag(5, 4), 7);
        x = of(FULL);
        due("FULL flag(7, 4)", x.flag(7, 4), 2);
        due("FULL flag(2, 4)", x.flag(2, 4), 8);
    }

    private static void ringsEnd() {
        sentence("THE RING of a FLAG: after how many STEPS, at least 1, it is that FLAG again");
        int[][][] pairs = {FEWEST, EDGES, FULL, RINGS_OF_31, RINGS_OF_32, MANY_RINGS, MOST};
        int[] sizes = {3, 4, 10, 31, 32, 3, 228};
        for (int n = 0; n < pairs.length; n++) {
            ChordRings x = of(pairs[n]);
            due("ring(0)", x.ring(0), sizes[n]);
            due("go(0, the ring)", x.go(0, sizes[n]), 0);
            for (int k = 1; k < sizes[n]; k++) {
                due("go(0, " + k + ") is another FLAG", x.go(0, k) != 0 ? 1 : 0, 1);
            }
        }
    }

    private static void smallestAndLargestDeterminants() {
        sentence("n 2 m + 1: of m rows and columns, s(2 + i + j); n 2 m: of m - 1 rows and columns, s(3 + i + j)");
        int[] places = {3, 4, 5, 6, 30, 31};
        int[] most = {54, 132, 119, 17, 74, 185};
        int[] fewest = {0, 4, 4, 0, 0, 3};
        int[] of31 = {19, 6, 8, 10, 3, 0};
        for (int n = 0; n < places.length; n++) {
            due("MOST determinant(" + places[n] + ")", of(MOST).determinant(places[n]), most[n]);
            due("FEWEST determinant(" + places[n] + ")", of(FEWEST).determinant(places[n]), fewest[n]);
            due("RINGS_OF_31 determinant(" + places[n] + ")", of(RINGS_OF_31).determinant(places[n]), of31[n]);
        }
        due("MOST series(2) as determinant(3)", of(MOST).series(2), 54);
        due("MOST series(3) as determinant(4)", of(MOST).series(3), 132);
    }

    private static void oneAndTwoNeverClose() {
        sentence("CLOSES(n): DETERMINANT(n) is 0; 1 and 2 never do");
        for (int[][] pair : new int[][][] {FEWEST, EDGES, LEVELS, FULL, MOST, MANY_RINGS, RINGS_OF_31, RINGS_OF_32}) {
            due("closes(1)", of(pair).closes(1), 0);
            due("closes(2)", of(pair).closes(2), 0);
        }
        due("FEWEST closes(3)", of(FEWEST).closes(3), 1);
    }

    private static void linesThatTouchTheCurve() {
        sentence("Three of its POINTS on one straight line .. (one counted twice where the line touches it)");
        ChordRings x = of(MOST);
        due("MOST multiple(2, 0)", x.multiple(2, 0), 194);
        due("MOST multiple(2, 1)", x.multiple(2, 1), 32);
        // Here the line that touches in ONE meets THE CURVE in ONE alone.
        x = of(FEWEST);
        due("FEWEST multiple(2, 0)", x.multiple(2, 0), 0);
        due("FEWEST multiple(2, 1)", x.multiple(2, 1), 4);
        // Here the line through ONE and 4 times ONE touches in the latter: 4, 4 and 1 make 9, which is NOUGHT.
        x = of(LEVELS);
        due("LEVELS multiple(4, 0)", x.multiple(4, 0), 1);
        due("LEVELS multiple(4, 1)", x.multiple(4, 1), 4);
        due("LEVELS multiple(5, 0), touched from ONE", x.multiple(5, 0), 1);
        due("LEVELS multiple(5, 1), touched from ONE", x.multiple(5, 1), 1);
    }

    private static void oppositePoints() {
        sentence("of two with the same t and y, -y, they themselves");
        int[][][] pairs = {FEWEST, LEVELS, FULL, MOST};
        for (int[][] pair : pairs) {
            ChordRings x = of(pair);
            int order = x.order();
            due("multiple(order - 1, 0)", x.multiple(order - 1, 0), 0);
            due("multiple(order - 1, 1)", x.multiple(order - 1, 1), pair[0][0] - 1);
            due("multiple(order, 0)", x.multiple(order, 0), NONE);
            due("multiple(order, 1)", x.multiple(order, 1), NONE);
            due("multiple(order + 1, 0)", x.multiple(order + 1, 0), 0);
            due("multiple(order + 1, 1)", x.multiple(order + 1, 1), 1);
        }
        // With y 0 it is the same one twice.
        ChordRings x = of(FULL);
        due("FULL multiple(5, 0)", x.multiple(5, 0), 1);
        due("FULL multiple(5, 1)", x.multiple(5, 1), 0);
        due("FULL multiple(10, 0)", x.multiple(10, 0), NONE);
        due("MOST multiple(114, 0)", of(MOST).multiple(114, 0), 60);
        due("MOST multiple(114, 1)", of(MOST).multiple(114, 1), 0);
    }

    private static void multipleOfNought() {
        sentence("ONE is t 0, y 1. MULTIPLE(k) is ONE k times (0: NOUGHT)");
        for (int[][] pair : new int[][][] {FEWEST, EDGES, LEVELS, FULL, MOST}) {
            ChordRings x = of(pair);
            due("multiple(0, 0)", x.multiple(0, 0), NONE);
            due("multiple(0, 1)", x.multiple(0, 1), NONE);
            due("multiple(1, 0)", x.multiple(1, 0), 0);
            due("multiple(1, 1)", x.multiple(1, 1), 1);
        }
    }

    private static void lineDue(String call, ChordRings x, int i, int k, int... line) {
        for (int what = 0; what < 3; what++) {
            due(call + " chord(" + i + ", " + k + ", " + what + ")", x.chord(i, k, what), line[what]);
        }
    }

    private static void chordsOfOnePoint() {
        sentence("(of both the same POINT: the LINE that TOUCHES C there)");
        ChordRings x = of(EDGES);
        lineDue("over no STEP", x, 0, 0, 1, 0, 0);
        lineDue("over a whole ring", x, 0, 4, 1, 0, 0);
        lineDue("to the other FLAG of the POINT", x, 0, 3, 1, 0, 0);
        lineDue("over a STEP that stays at the POINT", x, 1, 1, 1, 0, 0);
        lineDue("at the last POINT of all", x, 7, 0, 0, 3, 1);
        lineDue("to another POINT", x, 7, 2, 0, 4, 1);
        lineDue("over no STEP, 199", of(MOST), 227, 0, 164, 140, 1);
    }

    private static void skipsOfNought() {
        sentence("all TOUCH t C + D; with NOUGHT they TOUCH C");
        ChordRings x = of(EDGES);
        for (int k : new int[] {0, 4, 8, 1000}) {
            due("multiple(" + k + ", 0)", x.multiple(k, 0), NONE);
            due("all(" + k + ", 1, 0)", x.all(k, 1, 0), 8);
            due("all(" + k + ", 0, 1), only those of both", x.all(k, 0, 1), 4);
            // No chord touches C + D: what was asked for last must not be what the SKIP is taken from.
            due("all(" + k + ", 1, 1)", x.all(k, 1, 1), 0);
            due("chord(7, " + k + ", 3)", x.chord(7, k, 3), 1);
        }
        // Over 2 STEPS t C + D has no determinant here.
        due("all(2, 3, 1)", x.all(2, 3, 1), 8);
        due("all(2, 1, 1)", x.all(2, 1, 1), 0);
        due("chord(0, 2, 3)", x.chord(0, 2, 3), 1);
        x = of(MOST);
        due("MOST all(228, 1, 0)", x.all(228, 1, 0), 228);
        due("MOST all(1000, 82, 1)", x.all(1000, 82, 1), 228);
        due("MOST chord(227, 1000, 3)", x.chord(227, 1000, 3), 1);
        due("MOST all(114, 60, 1)", x.all(114, 60, 1), 228);
    }

    // ---- Promises 1 to 10

    private static void newObject() {
        sentence("Promise 1: p is 7; both ROUNDS as told");
        bounds("work(0, #, 0)", new ChordRings(), (x, n) -> x.work(0, n, 0), two(0, 6), two(0, 6), OUTSIDE);
        due("field(7) says which it was", new ChordRings().field(7), 7);
        due("given(0, 2)", new ChordRings().given(0, 2), 6);
        due("given(1, 2)", new ChordRings().given(1, 2), 6);
    }

    private static void field() {
        sentence("Promise 2: OUTSIDE: it is no prime from 5 to 199");
        int[] primes = {
            5, 7, 11, 13, 17, 19, 23, 29, 31, 37, 41, 43, 47, 53, 59, 61, 67, 71, 73, 79, 83, 89, 97, 101, 103, 107,
            109, 113, 127, 131, 137, 139, 149, 151, 157, 163, 167, 173, 179, 181, 191, 193, 197, 199,
        };
        ChordRings x = new ChordRings();
        int was = 7;
        int next = 0;
        for (int p = -13; p < 230; p++) {
            boolean prime = next < primes.length && primes[next] == p;
            due("field(" + p + ")", x.field(p), prime ? was : OUTSIDE);
            was = prime ? p : was;
            next += prime ? 1 : 0;
        }
        due("field(199) again", x.field(199), 199);
        refused("field(#)", x, (y, n) -> y.field(n), OUTSIDE, Integer.MIN_VALUE, Integer.MAX_VALUE, -199, 211, 39601);
        due("field(5), the least", x.field(5), 199);
        due("field(199), the greatest", x.field(199), 5);
    }

    private static void fieldStartsAgain() {
        sentence("Promise 2: The prime (ROUNDS are as at first): which it was");
        ChordRings x = of(EDGES);
        due("flags()", x.flags(), 8);
        due("field(5), the same", x.field(5), 5);
        for (int which = 0; which < 2; which++) {
            due("given(" + which + ", 0)", x.given(which, 0), 1);
            due("given(" + which + ", 2)", x.given(which, 2), 4);
            due("given(" + which + ", 5)", x.given(which, 5), 0);
        }
        due("flags()", x.flags(), NO);
        due("order()", x.order(), NO);
        due("series(0)", x.series(0), NO);
    }

    /** The six numbers, all 1 but for one place. */
    private static int roundWith(ChordRings x, int which, int place, int n) {
        int[] six = {1, 1, 1, 1, 1, 1};
        six[place] = n;
        return take(x, which, six);
    }

    private static void round() {
        sentence("Promise 3: OUTSIDE: which, one is no NUMBER");
        for (int p : ENDS_OF_PRIMES) {
            ChordRings x = over(p);
            bounds("round(#, 1, ..)", x, (y, n) -> roundWith(y, n, 0, 1), two(0, 1), two(1, 1), OUTSIDE);
            for (int place = 0; place < 6; place++) {
                int at = place;
                bounds("round(0, ..), # at " + at, x, (y, n) -> roundWith(y, 0, at, n), two(0, p - 1), two(1, 1),
                    OUTSIDE);
                due("given(0, " + at + ")", x.given(0, at), p - 1);
                bounds("round(1, ..), # at " + at, x, (y, n) -> roundWith(y, 1, at, n), two(0, p - 1), two(1, 1),
                    OUTSIDE);
                due("given(1, " + at + ")", x.given(1, at), p - 1);
            }
            due("round(0, all 0)", take(x, 0, 0, 0, 0, 0, 0, 0), 1);
            due("round(1, all p - 1)", take(x, 1, p - 1, p - 1, p - 1, p - 1, p - 1, p - 1), 1);
        }
    }

    private static void roundOfOtherPrime() {
        sentence("Promise 3: one is no NUMBER (of the field as it is now)");
        ChordRings x = new ChordRings();
        due("round(0, 6, ..) over 7", roundWith(x, 0, 0, 6), 1);
        x.field(5);
        due("round(0, 6, ..) over 5", roundWith(x, 0, 0, 6), OUTSIDE);
        due("round(0, 4, ..) over 5", roundWith(x, 0, 0, 4), 1);
        x.field(199);
        due("round(0, 6, ..) over 199", roundWith(x, 0, 0, 6), 1);
        due("round(0, 198, ..) over 199", roundWith(x, 0, 0, 198), 1);
        due("round(0, 199, ..) over 199", roundWith(x, 0, 0, 199), OUTSIDE);
    }

    /** FLAGS, THE RING, and of part 3 what each way of working tells, of an object that knew another PAIR ahead. */
    private static void pairDue(String pair, ChordRings x, int... due) {
        due(pair + " flags()", x.flags(), due[0]);
        due(pair + " flag(flags, 0)", x.flag(due[0], 0), UNKNOWN);
        due(pair + " ring(0)", x.ring(0), due[1]);
        due(pair + " rings()", x.rings(), due[0] / due[1]);
        due(pair + " order()", x.order(), due[1]);
        due(pair + " curve()", x.curve(), due[0]);
        due(pair + " least()", x.least(), due[1]);
        due(pair + " series(31)", x.series(31), due[2]);
        due(pair + " determinant(31)", x.determinant(31), due[3]);
        due(pair + " multiple(2, 0)", x.multiple(2, 0), due[4]);
        due(pair + " multiple(2, 1)", x.multiple(2, 1), due[5]);
        due(pair + " multiple(order - 1, 0)", x.multiple(due[1] - 1, 0), 0);
        due(pair + " multiple(order, 0)", x.multiple(due[1], 0), NONE);
        due(pair + " chord(0, 2, 0)", x.chord(0, 2, 0), due[6]);
        due(pair + " chord(0, 2, 3)", x.chord(0, 2, 3), 1);
    }

    private static void roundChangesWhatHangsOnIt() {
        sentence("Promise 3: OUTER (0), INNER (1): 1 (and what was told of the PAIR ahead is not told of this one)");
        ChordRings x = of(MOST);
        due("MOST flags()", x.flags(), 228);
        due("MOST order()", x.order(), 228);
        due("MOST series(31)", x.series(31), 183);
        x.field(5);
        due("FEWEST, OUTER", take(x, 0, FEWEST[1]), 1);
        due("FEWEST, INNER", take(x, 1, FEWEST[2]), 1);
        pairDue("FEWEST", x, 3, 3, 0, 3, 0, 4, 4);
        due("INNER of FULL", take(x, 1, FULL[2]), 1);
        pairDue("FEWEST and FULL", x, 8, 8, 2, 2, 2, 1, 3);
        due("OUTER of LEVELS", take(x, 0, LEVELS[1]), 1);
        pairDue("LEVELS and FULL", x, 4, 4, 3, 2, 2, 0, 1);
        due("OUTER of EDGES", take(x, 0, EDGES[1]), 1);
        due("EDGES and FULL, not GOOD, flags()", x.flags(), NO);
        due("EDGES and FULL, not GOOD, order()", x.order(), NO);
        due("EDGES and FULL, not GOOD, series(0)", x.series(0), NO);
        due("INNER of EDGES", take(x, 1, EDGES[2]), 1);
        pairDue("EDGES", x, 8, 4, 4, 2, 3, 0, 4);
    }

    private static void given() {
        sentence("Promise 4: Number i (0 to 5: a to f) of OUTER, INNER. OUTSIDE");
        ChordRings x = new ChordRings();
        take(x, 0, 1, 2, 3, 4, 5, 6);
        take(x, 1, 6, 5, 4, 3, 2, 0);
        bounds("given(0, #)", x, (y, n) -> y.given(0, n), two(0, 5), two(1, 6), OUTSIDE);
        bounds("given(1, #)", x, (y, n) -> y.given(1, n), two(0, 5), two(6, 0), OUTSIDE);
        bounds("given(#, 0)", x, (y, n) -> y.given(n, 0), two(0, 1), two(1, 6), OUTSIDE);
        bounds("given(#, 5)", x, (y, n) -> y.given(n, 5), two(0, 1), two(6, 0), OUTSIDE);
    }

    private static void work() {
        sentence("Promise 5: Sums (what = 0), products (1), quotients (2) of two NUMBERS. OUTSIDE");
        for (int p : ENDS_OF_PRIMES) {
            ChordRings x = over(p);
            int last = p - 1;
            bounds("work(#, 3, 3)", x, (y, n) -> y.work(n, 3, 3), two(0, 2), two(6 % p, 1), OUTSIDE);
            bounds("work(0, #, 1)", x, (y, n) -> y.work(0, n, 1), two(0, last), two(1, 0), OUTSIDE);
            bounds("work(0, 1, #)", x, (y, n) -> y.work(0, 1, n), two(0, last), two(1, 0), OUTSIDE);
            bounds("work(1, #, 2)", x, (y, n) -> y.work(1, n, 2), two(0, last), two(0, p - 2), OUTSIDE);
            bounds("work(1, 2, #)", x, (y, n) -> y.work(1, 2, n), two(0, last), two(0, p - 2), OUTSIDE);
            bounds("work(2, #, 1)", x, (y, n) -> y.work(2, n, 1), two(0, last), two(0, last), OUTSIDE);
            bounds("work(2, 2, #)", x, (y, n) -> y.work(2, 2, n), two(1, last), two(2, p - 2), OUTSIDE);
            refused("work(2, 2, #)", x, (y, n) -> y.work(2, 2, n), OUTSIDE, -1, -p, 2 * p);
        }
    }

    private static void workByNought() {
        sentence("Promise 5: OUTSIDE: also by 0");
        ChordRings x = new ChordRings();
        due("work(2, 1, 0)", x.work(2, 1, 0), OUTSIDE);
        due("work(2, 6, 0)", x.work(2, 6, 0), OUTSIDE);
        due("work(2, 0, 0)", x.work(2, 0, 0), OUTSIDE);
        due("work(2, 0, 1)", x.work(2, 0, 1), 0);
        due("work(0, 6, 0)", x.work(0, 6, 0), 6);
        due("work(1, 6, 0)", x.work(1, 6, 0), 0);
    }

    private static void root() {
        sentence("Promise 6: A square root of a NUMBER .. OUTSIDE");
        bounds("root(#)", over(5), (x, n) -> x.root(n), two(0, 4), two(0, 2), OUTSIDE);
        bounds("root(#)", new ChordRings(), (x, n) -> x.root(n), two(0, 6), two(0, NONE), OUTSIDE);
        bounds("root(#)", over(197), (x, n) -> x.root(n), two(0, 196), two(0, 14), OUTSIDE);
        bounds("root(#)", over(199), (x, n) -> x.root(n), two(0, 198), two(0, NONE), OUTSIDE);
    }

    private static void rootOfNone() {
        sentence("Promise 6: NONE: it has none");
        for (int p : ENDS_OF_PRIMES) {
            ChordRings x = over(p);
            int without = 0;
            for (int n = 0; n < p; n++) {
                without += x.root(n) == NONE ? 1 : 0;
            }
            due("NUMBERS without a root over " + p, without, (p - 1) / 2);
        }
        due("root(2) over 5", over(5).root(2), NONE);
        due("root(3) over 7", over(7).root(3), NONE);
    }

    private static void lesserRoot() {
        sentence("Promise 6: the lesser one");
        for (int p : ENDS_OF_PRIMES) {
            ChordRings x = over(p);
            for (int r = 0; r <= p / 2; r++) {
                due("root(" + r * r % p + ") over " + p, x.root(r * r % p), r);
            }
        }
    }

    private static void cubic() {
        sentence("Promise 7: c0 to c3 (i 0 to 3); 4: the DISCRIMINANT .. OUTSIDE");
        bounds("EDGES cubic(#)", of(EDGES), (x, n) -> x.cubic(n), two(0, 4), two(3, 3), OUTSIDE);
        bounds("MOST cubic(#)", of(MOST), (x, n) -> x.cubic(n), two(0, 4), two(85, 138), OUTSIDE);
        bounds("a new object's cubic(#)", new ChordRings(), (x, n) -> x.cubic(n), two(0, 4), two(6, 0), OUTSIDE);
        due("MOST cubic(1)", of(MOST).cubic(1), 127);
        due("MOST cubic(2)", of(MOST).cubic(2), 67);
        due("MOST cubic(3)", of(MOST).cubic(3), 45);
    }

    private static void discriminant() {
        sentence("Promise 7: the DISCRIMINANT .. which is 0 just if a root is one twice");
        for (int n = 0; n < 125; n++) {
            int a = n / 25, b = n / 5 % 5, c = n % 5;
            ChordRings x = diagonal(5, new int[] {1, 1, 1}, new int[] {a, b, c});
            due("cubic(4) is 0, 1 1 1 and " + a + " " + b + " " + c, x.cubic(4) == 0 ? 1 : 0,
                a == b || b == c || a == c ? 1 : 0);
        }
        due("LEVELS cubic(4), no root among the NUMBERS", of(LEVELS).cubic(4), 1);
    }

    private static void good() {
        sentence("Promise 8: Whether the PAIR is GOOD: 1, 0");
        due("a new object's good()", new ChordRings().good(), 0);
        due("EDGES good()", of(EDGES).good(), 1);
        due("MOST good()", of(MOST).good(), 1);
        ChordRings x = of(EDGES);
        take(x, 1, EDGES[1]);
        due("good() with both rounds the same", x.good(), 0);
        take(x, 1, EDGES[2]);
        due("good() as it was", x.good(), 1);
    }

    /** With the rounds of a new object: s + t times xx + yy - zz. */
    private static void on() {
        sentence("Promise 9: OUTSIDE: s, t, x, y, z are no NUMBERS");
        for (int p : ENDS_OF_PRIMES) {
            ChordRings x = over(p);
            int[] ends = two(0, p - 1);
            bounds("on(#, 2, 1, 1, 1)", x, (y, n) -> y.on(n, 2, 1, 1, 1), ends, two(2, 1), OUTSIDE);
            bounds("on(2, #, 1, 1, 1)", x, (y, n) -> y.on(2, n, 1, 1, 1), ends, two(2, 1), OUTSIDE);
            bounds("on(1, 0, #, 2, 1)", x, (y, n) -> y.on(1, 0, n, 2, 1), ends, two(3, 4), OUTSIDE);
            bounds("on(1, 0, 2, #, 1)", x, (y, n) -> y.on(1, 0, 2, n, 1), ends, two(3, 4), OUTSIDE);
            bounds("on(1, 0, 1, 1, #)", x, (y, n) -> y.on(1, 0, 1, 1, n), ends, two(2, 1), OUTSIDE);
        }
        due("MOST on(198, 198, 198, 198, 198)", of(MOST).on(198, 198, 198, 198, 198), 12);
    }

    private static void onNoughts() {
        sentence("Promise 9: OUTSIDE: s, t, x, y, z are no NUMBERS (0 is one)");
        for (int p : ENDS_OF_PRIMES) {
            ChordRings x = over(p);
            due("on(0, 0, 1, 1, 0)", x.on(0, 0, 1, 1, 0), 0);
            due("on(1, 1, 0, 0, 0)", x.on(1, 1, 0, 0, 0), 0);
            due("on(0, 0, 0, 0, 0)", x.on(0, 0, 0, 0, 0), 0);
        }
    }

    /** With the rounds of a new object: s + t squared times ww - uu - vv. */
    private static void touches() {
        sentence("Promise 10: The cofactors of s C + t D on a LINE from both sides. OUTSIDE");
        for (int p : ENDS_OF_PRIMES) {
            ChordRings x = over(p);
            int[] ends = two(0, p - 1);
            bounds("touches(#, 2, 1, 1, 1)", x, (y, n) -> y.touches(n, 2, 1, 1, 1), ends, two(p - 4, p - 1), OUTSIDE);
            bounds("touches(2, #, 1, 1, 1)", x, (y, n) -> y.touches(2, n, 1, 1, 1), ends, two(p - 4, p - 1), OUTSIDE);
            bounds("touches(1, 0, #, 2, 1)", x, (y, n) -> y.touches(1, 0, n, 2, 1), ends, two(p - 3, p - 4), OUTSIDE);
            bounds("touches(1, 0, 2, #, 1)", x, (y, n) -> y.touches(1, 0, 2, n, 1), ends, two(p - 3, p - 4), OUTSIDE);
            bounds("touches(1, 0, 1, 1, #)", x, (y, n) -> y.touches(1, 0, 1, 1, n), ends, two(p - 2, p - 1), OUTSIDE);
        }
        due("MOST touches(198, 198, 198, 198, 198)", of(MOST).touches(198, 198, 198, 198, 198), 130);
    }

    private static void touchesNoughts() {
        sentence("Promise 10: OUTSIDE (0 is a NUMBER, as in promise 9)");
        for (int p : ENDS_OF_PRIMES) {
            ChordRings x = over(p);
            due("touches(0, 0, 1, 1, 0)", x.touches(0, 0, 1, 1, 0), 0);
            due("touches(1, 1, 0, 0, 0)", x.touches(1, 1, 0, 0, 0), 0);
            due("touches(0, 0, 0, 0, 0)", x.touches(0, 0, 0, 0, 0), 0);
            due("touches of a matrix and its opposite", x.touches(1, p - 1, 1, 1, 0), 0);
        }
    }

    // ---- Promises 11 to 17

    private static void points() {
        sentence("Promise 11: How many POINTS OUTER has");
        due("FEWEST points()", of(FEWEST).points(), 6);
        due("MANY_RINGS points()", of(MANY_RINGS).points(), 200);
        due("points() of a new object", new ChordRings().points(), NO);
    }

    private static void pointUnknown() {
        sentence("Promise 12: Of a POINT of OUTER .. UNKNOWN");
        bounds("EDGES point(#, 0)", of(EDGES), (x, n) -> x.point(n, 0), two(0, 5), two(0, 1), UNKNOWN);
        bounds("EDGES point(#, 3)", of(EDGES), (x, n) -> x.point(n, 3), two(0, 5), two(2, 1), UNKNOWN);
        bounds("MOST point(#, 0)", of(MOST), (x, n) -> x.point(n, 0), two(0, 199), two(178, 197), UNKNOWN);
        bounds("MOST point(#, 1)", of(MOST), (x, n) -> x.point(n, 1), two(0, 199), two(2, 1), UNKNOWN);
        bounds("MOST point(#, 2)", of(MOST), (x, n) -> x.point(n, 2), two(0, 199), two(1, 0), UNKNOWN);
        // Fewer POINTS than ahead: those behind the last one are gone.
        ChordRings x = of(MOST);
        due("point(199, 3)", x.point(199, 3), 0);
        x.field(5);
        take(x, 0, EDGES[1]);
        take(x, 1, EDGES[2]);
        bounds("point(#, 0) behind MOST", x, (y, n) -> y.point(n, 0), two(0, 5), two(0, 1), UNKNOWN);
    }

    private static void pointOutside() {
        sentence("Promise 12: x, y, z (what 0 to 2); 3: how many FLAGS it has .. OUTSIDE");
        bounds("EDGES point(3, #)", of(EDGES), (x, n) -> x.point(3, n), two(0, 3), two(4, 2), OUTSIDE);
        bounds("EDGES point(5, #)", of(EDGES), (x, n) -> x.point(5, n), two(0, 3), two(1, 1), OUTSIDE);
        due("EDGES point(2, 3), no FLAG", of(EDGES).point(2, 3), 0);
        due("EDGES point(1, 3), one FLAG", of(EDGES).point(1, 3), 1);
        due("EDGES point(0, 3), two FLAGS", of(EDGES).point(0, 3), 2);
    }

    private static void flags() {
        sentence("Promise 13: How many FLAGS");
        due("FEWEST flags()", of(FEWEST).flags(), 3);
        due("FULL flags()", of(FULL).flags(), 10);
        due("MOST flags()", of(MOST).flags(), 228);
        due("MANY_RINGS flags()", of(MANY_RINGS).flags(), 228);
        due("flags() of a new object", new ChordRings().flags(), NO);
    }

    private static void flagUnknown() {
        sentence("Promise 14: Of a FLAG .. UNKNOWN");
        bounds("EDGES flag(#, 0)", of(EDGES), (x, n) -> x.flag(n, 0), two(0, 7), two(0, 5), UNKNOWN);
        bounds("EDGES flag(#, 5)", of(EDGES), (x, n) -> x.flag(n, 5), two(0, 7), two(1, 5), UNKNOWN);
        bounds("FEWEST flag(#, 1)", of(FEWEST), (x, n) -> x.flag(n, 1), two(0, 2), two(4, 4), UNKNOWN);
        bounds("MOST flag(#, 4)", of(MOST), (x, n) -> x.flag(n, 4), two(0, 227), two(140, 157), UNKNOWN);
        ChordRings x = of(MOST);
        due("flag(227, 0)", x.flag(227, 0), 198);
        x.field(5);
        take(x, 0, FEWEST[1]);
        take(x, 1, FEWEST[2]);
        bounds("flag(#, 0) behind MOST", x, (y, n) -> y.flag(n, 0), two(0, 2), two(2, 5), UNKNOWN);
    }

    private static void flagOutside() {
        sentence("Promise 14: 0 the number of its POINT .. 5 that ahead of one .. OUTSIDE");
        bounds("EDGES flag(0, #)", of(EDGES), (x, n) -> x.flag(0, n), two(0, 5), two(0, 1), OUTSIDE);
        bounds("MOST flag(227, #)", of(MOST), (x, n) -> x.flag(227, n), two(0, 5), two(198, 115), OUTSIDE);
    }

    private static void goUnknown() {
        sentence("Promise 15: The FLAG n STEPS .. on. UNKNOWN");
        bounds("EDGES go(#, 1)", of(EDGES), (x, n) -> x.go(n, 1), two(0, 7), two(3, 6), UNKNOWN);
        bounds("FEWEST go(#, 0)", of(FEWEST), (x, n) -> x.go(n, 0), two(0, 2), two(0, 2), UNKNOWN);
        bounds("MOST go(#, 1)", of(MOST), (x, n) -> x.go(n, 1), two(0, 227), two(140, 157), UNKNOWN);
    }

    private static void goOutside() {
        sentence("Promise 15: n STEPS (0 to 100000) .. OUTSIDE");
        bounds("EDGES go(7, #)", of(EDGES), (x, n) -> x.go(7, n), two(0, 100000), two(7, 7), OUTSIDE);
        bounds("FEWEST go(2, #)", of(FEWEST), (x, n) -> x.go(2, n), two(0, 100000), two(2, 0), OUTSIDE);
        bounds("MOST go(0, #)", of(MOST), (x, n) -> x.go(0, n), two(0, 100000), two(0, 219), OUTSIDE);
        bounds("MOST go(227, #)", of(MOST), (x, n) -> x.go(227, n), two(0, 100000), two(227, 27), OUTSIDE);
        due("MOST go(227, 99999)", of(MOST).go(227, 99999), 29);
    }

    private static void goRound() {
        sentence("Promise 15: The FLAG n STEPS .. on (once round and further)");
        for (int[][] pair : new int[][][] {FEWEST, EDGES, LEVELS, FULL, MOST, MANY_RINGS}) {
            ChordRings x = of(pair);
            int last = x.flags() - 1;
            for (int i = 0; i <= last; i += last) {
                int ring = x.ring(i);
                due("go(i, ring - 1)", x.go(i, ring - 1), x.flag(i, 5));
                due("go(i, ring)", x.go(i, ring), i);
                due("go(i, ring + 1)", x.go(i, ring + 1), x.flag(i, 4));
                due("go(i, 2 ring)", x.go(i, 2 * ring), i);
            }
        }
    }

    private static void ring() {
        sentence("Promise 16: THE RING of a FLAG. UNKNOWN");
        bounds("FEWEST ring(#)", of(FEWEST), (x, n) -> x.ring(n), two(0, 2), two(3, 3), UNKNOWN);
        bounds("EDGES ring(#)", of(EDGES), (x, n) -> x.ring(n), two(0, 7), two(4, 4), UNKNOWN);
        bounds("FULL ring(#)", of(FULL), (x, n) -> x.ring(n), two(0, 9), two(10, 10), UNKNOWN);
        bounds("MOST ring(#)", of(MOST), (x, n) -> x.ring(n), two(0, 227), two(228, 228), UNKNOWN);
        bounds("MANY_RINGS ring(#)", of(MANY_RINGS), (x, n) -> x.ring(n), two(0, 227), two(3, 3), UNKNOWN);
    }

    private static void rings() {
        sentence("Promise 17: How many rings there are, FLAGS of one counted once");
        due("FEWEST rings()", of(FEWEST).rings(), 1);
        due("EDGES rings()", of(EDGES).rings(), 2);
        due("MOST rings()", of(MOST).rings(), 1);
        due("MANY_RINGS rings()", of(MANY_RINGS).rings(), 76);
        due("rings() of a new object", new ChordRings().rings(), NO);
    }

    // ---- Promises 18 to 26

    private static void series() {
        sentence("Promise 18: s(k), k 0 to 31. OUTSIDE");
        bounds("EDGES series(#)", of(EDGES), (x, n) -> x.series(n), two(0, 31), two(1, 4), OUTSIDE);
        bounds("MOST series(#)", of(MOST), (x, n) -> x.series(n), two(0, 31), two(1, 183), OUTSIDE);
        due("MOST series(30)", of(MOST).series(30), 4);
    }

    private static void determinant() {
        sentence("Promise 19: OUTSIDE: n is not 3 to 31");
        bounds("EDGES determinant(#)", of(EDGES), (x, n) -> x.determinant(n), two(3, 31), two(2, 2), OUTSIDE);
        bounds("MOST determinant(#)", of(MOST), (x, n) -> x.determinant(n), two(3, 31), two(54, 185), OUTSIDE);
        refused("MOST determinant(#)", of(MOST), (x, n) -> x.determinant(n), OUTSIDE, 1, 0, -1, 33);
    }

    private static void closes() {
        sentence("Promise 20: CLOSES(n): 1, 0. OUTSIDE: n is not 1 to 31");
        bounds("FEWEST closes(#)", of(FEWEST), (x, n) -> x.closes(n), two(1, 31), two(0, 0), OUTSIDE);
        bounds("RINGS_OF_31 closes(#)", of(RINGS_OF_31), (x, n) -> x.closes(n), two(1, 31), two(0, 1), OUTSIDE);
        due("FEWEST closes(30)", of(FEWEST).closes(30), 1);
        due("FEWEST closes(3)", of(FEWEST).closes(3), 1);
        due("EDGES closes(3)", of(EDGES).closes(3), 0);
        due("EDGES closes(4)", of(EDGES).closes(4), 1);
    }

    private static void least() {
        sentence("Promise 21: The least n from 1 to 31 that CLOSES; NONE");
        due("FEWEST least()", of(FEWEST).least(), 3);
        due("EDGES least()", of(EDGES).least(), 4);
        due("RINGS_OF_31 least()", of(RINGS_OF_31).least(), 31);
        due("RINGS_OF_32 least()", of(RINGS_OF_32).least(), NONE);
        due("MOST least()", of(MOST).least(), NONE);
        due("MANY_RINGS least()", of(MANY_RINGS).least(), 3);
    }

    private static void multiple() {
        sentence("Promise 22: t (what = 0), y (1) of MULTIPLE(k), k 0 to 1000 .. OUTSIDE");
        bounds("MOST multiple(#, 0)", of(MOST), (x, n) -> x.multiple(n, 0), two(0, 1000), two(NONE, 82), OUTSIDE);
        bounds("MOST multiple(#, 1)", of(MOST), (x, n) -> x.multiple(n, 1), two(0, 1000), two(NONE, 146), OUTSIDE);
        bounds("MOST multiple(1000, #)", of(MOST), (x, n) -> x.multiple(1000, n), two(0, 1), two(82, 146), OUTSIDE);
        bounds("EDGES multiple(0, #)", of(EDGES), (x, n) -> x.multiple(0, n), two(0, 1), two(NONE, NONE), OUTSIDE);
        bounds("EDGES multiple(1, #)", of(EDGES), (x, n) -> x.multiple(1, n), two(0, 1), two(0, 1), OUTSIDE);
    }

    private static void multipleIsNought() {
        sentence("Promise 22: NONE: it is NOUGHT");
        ChordRings x = of(FULL);
        for (int k = 0; k <= 30; k++) {
            due("FULL multiple(" + k + ", 0) is NOUGHT", x.multiple(k, 0) == NONE ? 1 : 0, k % 10 == 0 ? 1 : 0);
            due("FULL multiple(" + k + ", 1) is NOUGHT", x.multiple(k, 1) == NONE ? 1 : 0, k % 10 == 0 ? 1 : 0);
        }
        due("FULL multiple(1000, 0)", x.multiple(1000, 0), NONE);
        due("FULL multiple(999, 1)", x.multiple(999, 1), 4);
    }

    private static void order() {
        sentence("Promise 23: The least k from 1 on with MULTIPLE(k) NOUGHT");
        due("FEWEST order()", of(FEWEST).order(), 3);
        due("FULL order()", of(FULL).order(), 10);
        due("RINGS_OF_31 order()", of(RINGS_OF_31).order(), 31);
        due("RINGS_OF_32 order()", of(RINGS_OF_32).order(), 32);
        due("MANY_RINGS order()", of(MANY_RINGS).order(), 3);
        due("MOST order()", of(MOST).order(), 228);
    }

    private static void curve() {
        sentence("Promise 24: How many POINTS THE CURVE has, with NOUGHT");
        due("FEWEST curve(), t 0 and NOUGHT alone", of(FEWEST).curve(), 3);
        due("LEVELS curve(), none with y 0", of(LEVELS).curve(), 9);
        due("FULL curve(), one with y 0", of(FULL).curve(), 10);
        due("MANY_RINGS curve()", of(MANY_RINGS).curve(), 228);
        due("MOST curve()", of(MOST).curve(), 228);
    }

    private static void chordUnknown() {
        sentence("Promise 25: The chord from a FLAG's POINT .. UNKNOWN");
        bounds("EDGES chord(#, 1, 0)", of(EDGES), (x, n) -> x.chord(n, 1, 0), two(0, 7), two(4, 0), UNKNOWN);
        bounds("EDGES chord(#, 1, 3)", of(EDGES), (x, n) -> x.chord(n, 1, 3), two(0, 7), two(1, 1), UNKNOWN);
        bounds("MOST chord(#, 1000, 0)", of(MOST), (x, n) -> x.chord(n, 1000, 0), two(0, 227), two(14, 130), UNKNOWN);
    }

    private static void chordOutside() {
        sentence("Promise 25: k STEPS (0 to 1000) on: u, v, w (what 0 to 2); 3: whether it TOUCHES .. OUTSIDE");
        bounds("EDGES chord(7, #, 1)", of(EDGES), (x, n) -> x.chord(7, n, 1), two(0, 1000), two(3, 3), OUTSIDE);
        bounds("MOST chord(0, #, 0)", of(MOST), (x, n) -> x.chord(0, n, 0), two(0, 1000), two(98, 14), OUTSIDE);
        bounds("MOST chord(227, #, 3)", of(MOST), (x, n) -> x.chord(227, n, 3), two(0, 1000), two(1, 1), OUTSIDE);
        bounds("MOST chord(227, 1000, #)", of(MOST), (x, n) -> x.chord(227, 1000, n), two(0, 3), two(130, 1), OUTSIDE);
        bounds("EDGES chord(0, 0, #)", of(EDGES), (x, n) -> x.chord(0, 0, n), two(0, 3), two(1, 1), OUTSIDE);
        lineDue("MOST", of(MOST), 227, 999, 134, 61, 1);
        lineDue("MOST", of(MOST), 227, 1000, 130, 77, 1);
    }

    private static void all() {
        sentence("Promise 26: whose chord over k STEPS (0 to 1000) TOUCHES s C + t D. OUTSIDE");
        bounds("EDGES all(#, 1, 0)", of(EDGES), (x, n) -> x.all(n, 1, 0), two(0, 1000), two(8, 8), OUTSIDE);
        bounds("MANY_RINGS all(#, 0, 1)", of(MANY_RINGS), (x, n) -> x.all(n, 0, 1), two(0, 1000), two(4, 228), OUTSIDE);
        bounds("FULL all(0, #, 1)", of(FULL), (x, n) -> x.all(0, n, 1), two(0, 4), two(0, 4), OUTSIDE);
        bounds("FULL all(0, 1, #)", of(FULL), (x, n) -> x.all(0, 1, n), two(0, 4), two(10, 4), OUTSIDE);
        bounds("FULL all(2, #, 4)", of(FULL), (x, n) -> x.all(2, n, 4), two(0, 4), two(0, 0), OUTSIDE);
        due("FULL all(1, 1, 0), no FLAG", of(FULL).all(1, 1, 0), 0);
        due("FULL all(0, 1, 0), every FLAG", of(FULL).all(0, 1, 0), 10);
    }

    private static void allOfNoughts() {
        sentence("Promise 26: OUTSIDE: also s, t both 0");
        for (int[][] pair : new int[][][] {EDGES, FULL, MOST}) {
            ChordRings x = of(pair);
            due("all(0, 0, 0)", x.all(0, 0, 0), OUTSIDE);
            due("all(1000, 0, 0)", x.all(1000, 0, 0), OUTSIDE);
            due("all(0, 1, 0), t alone 0", x.all(0, 1, 0), x.flags());
            due("all(1, 0, 1), s alone 0", x.all(1, 0, 1), x.flags());
        }
    }
}
