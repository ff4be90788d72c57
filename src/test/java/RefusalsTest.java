import java.util.ArrayList;
import java.util.Arrays;
import java.util.List;

/**
 * "Calls that are refused answer, the first of these that fits .. They change nothing."
 *
 * Every way in which a call can be refused, alone and with others at once, with the answer that is due; and behind
 * each of them everything that can be asked, which must be answered as if the call had not been.
 */
public final class RefusalsTest {
    private static final int UNKNOWN = -1, OUTSIDE = -2, NO = -5;

    /** Over 5: 6 POINTS, 8 FLAGS in rings of 4. */
    private static final int[] OUTER = {0, 4, 0, 0, 4, 2}, INNER = {0, 3, 2, 4, 2, 0};
    /** Six NUMBERS that stand in neither round. */
    private static final int[] OTHERS = {1, 2, 3, 1, 1, 1};
    private static final int P = 5, POINTS = 6, FLAGS = 8;

    private static final List<Refusal> refusals = new ArrayList<>();
    private static int asked = 0;
    private static int wrong = 0;

    private interface Call {
        int of(ChordRings x);
    }

    private record Refusal(String name, int due, Call call) {
    }

    private static void refusal(String name, int due, Call call) {
        refusals.add(new Refusal(name, due, call));
    }

    private static void due(String what, int got, int want) {
        asked++;
        if (got != want) {
            wrong++;
            System.out.println(what + " answered " + got + ", due is " + want);
        }
    }

    private static int take(ChordRings x, int which, int... six) {
        return x.round(which, six[0], six[1], six[2], six[3], six[4], six[5]);
    }

    private static ChordRings goodPair() {
        ChordRings x = new ChordRings();
        x.field(P);
        take(x, 0, OUTER);
        take(x, 1, INNER);
        return x;
    }

    /** The same OUTER, and INNER the same as it: every root is one three times. */
    private static ChordRings badPair() {
        ChordRings x = goodPair();
        take(x, 1, OUTER);
        return x;
    }

    public static void main(String[] args) {
        partOne();
        List<Refusal> everywhere = new ArrayList<>(refusals);
        partTwo();
        partThree();
        List<Refusal> withGoodPair = new ArrayList<>(refusals);
        refusals.clear();
        withoutGoodPair();
        List<Refusal> withoutGoodPair = new ArrayList<>(refusals);
        for (Refusal refusal : withGoodPair) {
            changesNothing(refusal);
        }
        for (Refusal refusal : everywhere) {
            changesNothingWithoutGoodPair(refusal);
        }
        for (Refusal refusal : withoutGoodPair) {
            changesNothingWithoutGoodPair(refusal);
        }
        manyRefusalsInARow(withGoodPair);
        System.out.println(withGoodPair.size() + withoutGoodPair.size() + " refusals, " + asked + " answers, " + wrong
            + " are not as due");
        if (wrong != 0) {
            System.exit(1);
        }
    }

    // ---- the calls

    /** Without UNKNOWN and NO: these are OUTSIDE with a GOOD PAIR and without. */
    private static void partOne() {
        for (int p : new int[] {Integer.MIN_VALUE, -5, 0, 1, 2, 3, 4, 6, 9, 198, 200, 211, Integer.MAX_VALUE}) {
            refusal("field(" + p + ")", OUTSIDE, x -> x.field(p));
        }
        for (int which : new int[] {Integer.MIN_VALUE, -1, 2, Integer.MAX_VALUE}) {
            refusal("round(" + which + ", ..)", OUTSIDE, x -> take(x, which, OTHERS));
            refusal("round(" + which + ", .., p) for two reasons", OUTSIDE, x -> take(x, which, 1, 1, 1, 1, 1, P));
            refusal("given(" + which + ", 0)", OUTSIDE, x -> x.given(which, 0));
            refusal("given(" + which + ", 6) for two reasons", OUTSIDE, x -> x.given(which, 6));
        }
        for (int bad : new int[] {Integer.MIN_VALUE, -1, P, Integer.MAX_VALUE}) {
            badNumberInRounds(bad);
            badNumberInMixes(bad);
            for (int what = 0; what < 3; what++) {
                int kind = what;
                refusal("work(" + what + ", " + bad + ", 1)", OUTSIDE, x -> x.work(kind, bad, 1));
                refusal("work(" + what + ", 1, " + bad + ")", OUTSIDE, x -> x.work(kind, 1, bad));
            }
            refusal("work(2, " + bad + ", 0) for two reasons", OUTSIDE, x -> x.work(2, bad, 0));
            refusal("root(" + bad + ")", OUTSIDE, x -> x.root(bad));
            refusal("cubic(" + bad + ")", OUTSIDE, x -> x.cubic(bad));
        }
        for (int what : new int[] {Integer.MIN_VALUE, -1, 3, Integer.MAX_VALUE}) {
            refusal("work(" + what + ", 1, 1)", OUTSIDE, x -> x.work(what, 1, 1));
            refusal("work(" + what + ", p, 0) for three reasons", OUTSIDE, x -> x.work(what, P, 0));
        }
        for (int i : new int[] {Integer.MIN_VALUE, -1, 6, Integer.MAX_VALUE}) {
            refusal("given(0, " + i + ")", OUTSIDE, x -> x.given(0, i));
            refusal("given(1, " + i + ")", OUTSIDE, x -> x.given(1, i));
        }
        refusal("work(2, 1, 0)", OUTSIDE, x -> x.work(2, 1, 0));
        refusal("work(2, 0, 0)", OUTSIDE, x -> x.work(2, 0, 0));
    }

    /** The other five are NUMBERS, and others than those that stand: none of them may be taken. */
    private static void badNumberInRounds(int bad) {
        for (int place = 0; place < 6; place++) {
            int[] outer = {1, 1, 1, 1, 1, 1};
            int[] inner = {1, 1, 1, 1, 1, 1};
            outer[place] = bad;
            inner[place] = bad;
            refusal("round(0, " + Arrays.toString(outer) + ")", OUTSIDE, x -> take(x, 0, outer));
            refusal("round(1, " + Arrays.toString(inner) + ")", OUTSIDE, x -> take(x, 1, inner));
        }
    }

    private static void badNumberInMixes(int bad) {
        for (int place = 0; place < 5; place++) {
            int[] n = {1, 1, 1, 1, 1};
            n[place] = bad;
            refusal("on(" + Arrays.toString(n) + ")", OUTSIDE, x -> x.on(n[0], n[1], n[2], n[3], n[4]));
            refusal("touches(" + Arrays.toString(n) + ")", OUTSIDE, x -> x.touches(n[0], n[1], n[2], n[3], n[4]));
        }
    }

    /** No such POINT or FLAG is told ahead of another number that is not as told. */
    private static void partTwo() {
        for (int i : new int[] {Integer.MIN_VALUE, -1, POINTS, Integer.MAX_VALUE}) {
            refusal("point(" + i + ", 0)", UNKNOWN, x -> x.point(i, 0));
            refusal("point(" + i + ", 3)", UNKNOWN, x -> x.point(i, 3));
            refusal("point(" + i + ", -1) for two reasons", UNKNOWN, x -> x.point(i, -1));
            refusal("point(" + i + ", 4) for two reasons", UNKNOWN, x -> x.point(i, 4));
        }
        for (int i : new int[] {Integer.MIN_VALUE, -1, FLAGS, Integer.MAX_VALUE}) {
            refusal("flag(" + i + ", 0)", UNKNOWN, x -> x.flag(i, 0));
            refusal("flag(" + i + ", 5)", UNKNOWN, x -> x.flag(i, 5));
            refusal("flag(" + i + ", -1) for two reasons", UNKNOWN, x -> x.flag(i, -1));
            refusal("flag(" + i + ", 6) for two reasons", UNKNOWN, x -> x.flag(i, 6));
            refusal("go(" + i + ", 0)", UNKNOWN, x -> x.go(i, 0));
            refusal("go(" + i + ", 100000)", UNKNOWN, x -> x.go(i, 100000));
            refusal("go(" + i + ", -1) for two reasons", UNKNOWN, x -> x.go(i, -1));
            refusal("go(" + i + ", 100001) for two reasons", UNKNOWN, x -> x.go(i, 100001));
            refusal("ring(" + i + ")", UNKNOWN, x -> x.ring(i));
        }
        for (int bad : new int[] {Integer.MIN_VALUE, -1, Integer.MAX_VALUE}) {
            refusal("point(0, " + bad + ")", OUTSIDE, x -> x.point(0, bad));
            refusal("flag(0, " + bad + ")", OUTSIDE, x -> x.flag(0, bad));
            refusal("go(0, " + bad + ")", OUTSIDE, x -> x.go(0, bad));
        }
        refusal("point(5, 4)", OUTSIDE, x -> x.point(5, 4));
        refusal("flag(7, 6)", OUTSIDE, x -> x.flag(7, 6));
        refusal("go(7, 100001)", OUTSIDE, x -> x.go(7, 100001));
    }

    private static void partThree() {
        for (int bad : new int[] {Integer.MIN_VALUE, -1, 32, Integer.MAX_VALUE}) {
            refusal("series(" + bad + ")", OUTSIDE, x -> x.series(bad));
            refusal("determinant(" + bad + ")", OUTSIDE, x -> x.determinant(bad));
            refusal("closes(" + bad + ")", OUTSIDE, x -> x.closes(bad));
        }
        for (int bad : new int[] {0, 1, 2}) {
            refusal("determinant(" + bad + ")", OUTSIDE, x -> x.determinant(bad));
        }
        refusal("closes(0)", OUTSIDE, x -> x.closes(0));
        for (int k : new int[] {Integer.MIN_VALUE, -1, 1001, Integer.MAX_VALUE}) {
            refusal("multiple(" + k + ", 0)", OUTSIDE, x -> x.multiple(k, 0));
            refusal("multiple(" + k + ", 2) for two reasons", OUTSIDE, x -> x.multiple(k, 2));
            refusal("chord(0, " + k + ", 0)", OUTSIDE, x -> x.chord(0, k, 0));
            refusal("chord(7, " + k + ", 4) for two reasons", OUTSIDE, x -> x.chord(7, k, 4));
            refusal("all(" + k + ", 1, 0)", OUTSIDE, x -> x.all(k, 1, 0));
            refusal("all(" + k + ", 0, 0) for two reasons", OUTSIDE, x -> x.all(k, 0, 0));
        }
        // 0 times ONE is NOUGHT, but that is told only if it is asked for as told.
        refusal("multiple(0, -1)", OUTSIDE, x -> x.multiple(0, -1));
        refusal("multiple(0, 2)", OUTSIDE, x -> x.multiple(0, 2));
        refusal("multiple(1000, 2)", OUTSIDE, x -> x.multiple(1000, 2));
        refusal("chord(0, 0, -1)", OUTSIDE, x -> x.chord(0, 0, -1));
        refusal("chord(7, 1000, 4)", OUTSIDE, x -> x.chord(7, 1000, 4));
        for (int i : new int[] {Integer.MIN_VALUE, -1, FLAGS, Integer.MAX_VALUE}) {
            refusal("chord(" + i + ", 0, 0)", UNKNOWN, x -> x.chord(i, 0, 0));
            refusal("chord(" + i + ", 1, 3)", UNKNOWN, x -> x.chord(i, 1, 3));
            refusal("chord(" + i + ", 1001, 0) for two reasons", UNKNOWN, x -> x.chord(i, 1001, 0));
            refusal("chord(" + i + ", 0, 4) for two reasons", UNKNOWN, x -> x.chord(i, 0, 4));
            refusal("chord(" + i + ", -1, -1) for three reasons", UNKNOWN, x -> x.chord(i, -1, -1));
        }
        for (int bad : new int[] {Integer.MIN_VALUE, -1, P, Integer.MAX_VALUE}) {
            refusal("all(0, " + bad + ", 0)", OUTSIDE, x -> x.all(0, bad, 0));
            refusal("all(0, 0, " + bad + ")", OUTSIDE, x -> x.all(0, 0, bad));
            refusal("all(1001, " + bad + ", " + bad + ") for three reasons", OUTSIDE, x -> x.all(1001, bad, bad));
        }
        refusal("all(0, 0, 0)", OUTSIDE, x -> x.all(0, 0, 0));
    }

    /** NO is told ahead of everything else, whether the numbers would be as told or not. */
    private static void withoutGoodPair() {
        refusal("points()", NO, x -> x.points());
        refusal("flags()", NO, x -> x.flags());
        refusal("rings()", NO, x -> x.rings());
        refusal("least()", NO, x -> x.least());
        refusal("order()", NO, x -> x.order());
        refusal("curve()", NO, x -> x.curve());
        for (int i : new int[] {0, -1, 99, Integer.MIN_VALUE, Integer.MAX_VALUE}) {
            refusal("ring(" + i + ")", NO, x -> x.ring(i));
            refusal("series(" + i + ")", NO, x -> x.series(i));
            refusal("determinant(" + i + ")", NO, x -> x.determinant(i));
            refusal("closes(" + i + ")", NO, x -> x.closes(i));
            for (int n : new int[] {0, 3, -1, 100001}) {
                refusal("point(" + i + ", " + n + ")", NO, x -> x.point(i, n));
                refusal("flag(" + i + ", " + n + ")", NO, x -> x.flag(i, n));
                refusal("go(" + i + ", " + n + ")", NO, x -> x.go(i, n));
                refusal("multiple(" + i + ", " + n + ")", NO, x -> x.multiple(i, n));
                refusal("chord(" + i + ", " + n + ", 0)", NO, x -> x.chord(i, n, 0));
                refusal("chord(" + i + ", 0, " + n + ")", NO, x -> x.chord(i, 0, n));
                refusal("all(" + n + ", " + i + ", 1)", NO, x -> x.all(n, i, 1));
                refusal("all(" + n + ", " + i + ", 0)", NO, x -> x.all(n, i, 0));
            }
        }
        for (int n : new int[] {1, 3, 31}) {
            refusal("series(" + n + ")", NO, x -> x.series(n));
            refusal("determinant(" + n + ")", NO, x -> x.determinant(n));
            refusal("closes(" + n + ")", NO, x -> x.closes(n));
        }
    }

    // ---- They change nothing.

    private static void changesNothing(Refusal refusal) {
        // Ahead of all other questions, while nothing but the rounds can be known.
        ChordRings x = goodPair();
        due(refusal.name, refusal.call.of(x), refusal.due);
        same("behind " + refusal.name, lookAt(x), lookAt(goodPair()));
        // Behind all other questions, and a second time.
        x = goodPair();
        int[] ahead = lookAt(x);
        due(refusal.name, refusal.call.of(x), refusal.due);
        due(refusal.name, refusal.call.of(x), refusal.due);
        same("behind questions and " + refusal.name, lookAt(x), ahead);
        due("field(7) behind " + refusal.name, x.field(7), P);
    }

    /** Nothing but the rounds is to be seen; the rest is, when INNER makes the PAIR GOOD. */
    private static void changesNothingWithoutGoodPair(Refusal refusal) {
        ChordRings x = badPair();
        due(refusal.name, refusal.call.of(x), refusal.due);
        same("without a GOOD PAIR behind " + refusal.name, lookAt(x), lookAt(badPair()));
        take(x, 1, INNER);
        same("with a GOOD PAIR again behind " + refusal.name, lookAt(x), lookAt(goodPair()));
        // What was known of a GOOD PAIR is not told of one that is not.
        x = goodPair();
        lookAt(x);
        take(x, 1, OUTER);
        due(refusal.name + " behind a GOOD PAIR", refusal.call.of(x), refusal.due);
        take(x, 1, INNER);
        same("behind a GOOD PAIR and " + refusal.name, lookAt(x), lookAt(goodPair()));
        due("field(7) behind " + refusal.name, x.field(7), P);
    }

    private static void manyRefusalsInARow(List<Refusal> many) {
        for (int start = 0; start < many.size(); start += 250) {
            ChordRings x = goodPair();
            for (int n = start; n < many.size() && n < start + 250; n++) {
                due(many.get(n).name + " in a row", many.get(n).call.of(x), many.get(n).due);
            }
            same("behind many refusals", lookAt(x), lookAt(goodPair()));
        }
    }

    private static void same(String when, int[] got, int[] want) {
        asked += want.length;
        for (int n = 0; n < want.length; n++) {
            if (got[n] != want[n]) {
                wrong++;
                System.out.println(when + " answer " + n + " of all is " + got[n] + ", due is " + want[n]);
                return;
            }
        }
    }

    /** All that can be asked of the pair in some 220 calls, so that two looks and more fit into 512. */
    private static int[] lookAt(ChordRings x) {
        List<Integer> seen = new ArrayList<>();
        for (int i = 0; i < 6; i++) {
            seen.add(x.given(0, i));
            seen.add(x.given(1, i));
        }
        for (int i = 0; i < 5; i++) {
            seen.add(x.cubic(i));
        }
        seen.add(x.good());
        seen.add(x.work(0, P - 1, 1));
        seen.add(x.work(0, P, 1));
        seen.add(x.root(P - 1));
        seen.add(x.on(1, 2, 3, 4, 1));
        seen.add(x.touches(1, 2, 3, 4, 1));
        lookAtFlags(x, seen);
        lookAtSkips(x, seen);
        int[] all = new int[seen.size()];
        for (int n = 0; n < all.length; n++) {
            all[n] = seen.get(n);
        }
        return all;
    }

    private static void lookAtFlags(ChordRings x, List<Integer> seen) {
        seen.add(x.points());
        for (int i = 0; i <= POINTS; i++) {
            for (int what = 0; what < 4; what++) {
                seen.add(x.point(i, what));
            }
        }
        seen.add(x.flags());
        for (int i = 0; i <= FLAGS; i++) {
            for (int what = 0; what < 6; what++) {
                seen.add(x.flag(i, what));
            }
            seen.add(x.go(i, 99999));
            seen.add(x.ring(i));
        }
        seen.add(x.rings());
    }

    private static void lookAtSkips(ChordRings x, List<Integer> seen) {
        for (int k = 0; k < 32; k++) {
            seen.add(x.series(k));
        }
        for (int n = 3; n < 32; n += 4) {
            seen.add(x.determinant(n));
            seen.add(x.closes(n + 1 > 31 ? 1 : n + 1));
        }
        seen.add(x.least());
        seen.add(x.order());
        seen.add(x.curve());
        for (int k = 0; k < 6; k++) {
            seen.add(x.multiple(k, 0));
            seen.add(x.multiple(k, 1));
            seen.add(x.chord(k, k, 0));
            seen.add(x.chord(k, k, 3));
            seen.add(x.all(k, 0, 1));
        }
    }
}
