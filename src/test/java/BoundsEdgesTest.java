import java.math.BigInteger;
import java.util.function.Supplier;

/** The edges that promises 16 to 23 name: bound, best, layouts, stages, centre, drawn, chance, tells. */
public final class BoundsEdgesTest {
    private static final Edge E = new Edge("BoundsEdgesTest");
    private static final int NONE = Due.NONE, BAD = Due.BAD, STATE = Due.STATE;
    private static final int MIN = Integer.MIN_VALUE, MAX = Integer.MAX_VALUE;

    public static void main(String[] args) throws Exception {
        boundAsked();
        boundOfWhat();
        boundAreas();
        boundTallest();
        boundHalf();
        boundShared();
        boundCutOff();
        boundGreatest();
        boundTurned();
        best();
        bestFirst();
        bestNone();
        layouts();
        layoutsAlike();
        stagesFew();
        stagesLines();
        stagesWays();
        centre();
        centreBits();
        drawn();
        drawnSeeds();
        chance();
        chanceSeeds();
        tellsAsked();
        tellsFirst();
        tellsRules();
        tellsPairs();
        E.end(16, 23);
    }

    private static SkylineNester ordered(int wide, String items) {
        SkylineNester x = Due.nester(wide, items);
        x.order(NONE);
        return x;
    }

    private static SkylineNester six() {
        SkylineNester x = Edge.rich();
        Due.order(x, 2, 0, 1, 2, 3, 4, 5);
        return x;
    }

    private static SkylineNester five() {
        SkylineNester x = Edge.rich();
        Due.order(x, 2, 4, 3, 5, 0, 1);
        return x;
    }

    private static SkylineNester emptyOrder() {
        SkylineNester x = Edge.rich();
        x.order(3);
        return x;
    }

    // ---- promise 16

    private static void boundAsked() {
        E.still(16, "BAD: -1", Edge::rich, x -> x.bound(-1), BAD);
        E.still(16, "BAD: 9", Edge::rich, x -> x.bound(9), BAD);
        E.still(16, "BAD: MIN", Edge::rich, x -> x.bound(MIN), BAD);
        E.still(16, "BAD: MAX", Edge::rich, x -> x.bound(MAX), BAD);
        int[] want = {3, 10, 0, 1, 3, 3, 3, 3, 10};
        for (int which = 0; which < 9; which++) {
            int asked = which;
            E.still(16, "BOUND " + which, Edge::rich, x -> x.bound(asked), want[asked]);
            E.is(16, "0: no PARTS", new SkylineNester().bound(which), 0);
            E.is(16, "0: no PARTS in THE ORDER, none FIXED", Due.nester(4, "p3x3 p4x9").bound(which), 0);
        }
    }

    private static void boundOfWhat() {
        SkylineNester x = Due.nester(4, "p4x3 p4x2 p4x1");
        x.lay(0);
        E.is(16, "what lies on THE SKYLINE isn't of it", x.bound(0), 0);
        x.lay(NONE);
        Due.order(x, 0, 1);
        E.is(16, "of THE ORDER", x.bound(0), 2);
        x.fix(0, 0, 0);
        E.is(16, "and of FIXED ones", x.bound(0), 5);
        x.order(3);
        Due.order(x, 0);
        E.is(16, "of FIXED ones alone", x.bound(0), 3);
        x.fix(0, NONE, 0);
        E.is(16, "FIXED no more", x.bound(0), 0);
        bounds("10 PARTS", ordered(2, "p1x1*9p2x1"), 6, 1, 1, 6, 6, 6, 6, 6, 6);
        SkylineNester y = Due.nester(2, "p1x9*9p1x9");
        for (int part = 0; part < 10; part++) y.fix(part, part % 2, 10 * (part / 2));
        bounds("10 FIXED ones", y, 45, 49, 0, 45, 45, 45, 45, 45, 49);
        y.strip(2);
        bounds("none is FIXED behind strip", y, 0, 0, 0, 0, 0, 0, 0, 0, 0);
        Due.parts(y, "p1x1*2");
        Due.order(y, 0, 0);
        bounds("one of two behind strip", y, 1, 1, 0, 1, 1, 1, 1, 1, 1);
    }

    private static void boundAreas() {
        int[] areas = {1, 1, 1, 1, 2, 2, 2, 2, 3};
        for (int n = 1; n <= 9; n++) {
            E.is(16, "0: the least whole number not below " + n + " by 4", ordered(4, "p1x1*" + n).bound(0), areas[n - 1]);
        }
        E.is(16, "0: the greatest", ordered(1, "c1x9*9c1x9").bound(0), 100);
        E.is(16, "0: the least", ordered(20, "p1x1").bound(0), 1);
    }

    private static void boundTallest() {
        E.is(16, "1: the tallest", ordered(4, "p1x3 p1x5 p1x4").bound(1), 5);
        E.is(16, "1: t of a CLEAR one", ordered(1, "p1x5 c1x5 p1x5").bound(1), 6);
        SkylineNester x = Due.nester(4, "p1x1 p1x5");
        x.fix(0, 0, 3);
        Due.order(x, 0, 1);
        E.is(16, "1: y + t of a FIXED one below t of another", x.bound(1), 5);
        Due.order(x, 0);
        x.fix(1, 1, 0);
        E.is(16, "1: y + t of FIXED ones", x.bound(1), 5);
        SkylineNester y = Due.nester(4, "c1x9");
        y.fix(0, 3, 60);
        E.is(16, "1: y + t at its greatest", y.bound(1), 70);
        SkylineNester z = Due.nester(4, "p1x1");
        z.fix(0, 3, 0);
        E.is(16, "1: y + t of a y of 0", z.bound(1), 1);
    }

    private static void boundHalf() {
        for (int wide = 1; wide <= 20; wide++) {
            for (int w = 1; w <= wide; w++) {
                int want = 2 * w > wide ? 7 : 0;
                E.is(16, "2: " + w + " of " + wide, ordered(wide, "p" + w + "x7").bound(2), want);
            }
        }
        E.is(16, "2: together", ordered(4, "p3x2 p2x9 p4x3 c3x9").bound(2), 15);
    }

    private static void boundShared() {
        // U(w) of 1 .. 6 for each k on a strip of 6; the t together are 6 k, so that just U(w) is told
        int[][] u = {{0, 0, 3, 6, 6, 6}, {0, 4, 6, 8, 12, 12}, {0, 6, 9, 12, 18, 18}, {0, 6, 12, 18, 24, 24}};
        String[] heights = {"6", "6*2", "9*2", "8*3"};
        for (int k = 1; k <= 4; k++) {
            for (int w = 1; w <= 6; w++) {
                SkylineNester x = ordered(6, "p" + w + "x" + heights[k - 1]);
                E.is(16, (k + 2) + ": U of " + w + ", k " + k, x.bound(k + 2), u[k - 1][w - 1]);
            }
        }
        // one more or less of t: the least whole number not below
        E.is(16, "3: 18 by 6", ordered(6, "p4x3").bound(3), 3);
        E.is(16, "3: 21 by 6", ordered(6, "p4x3 p3x1").bound(3), 4);
        E.is(16, "4: 12 by 12", ordered(6, "p5x1").bound(4), 1);
        E.is(16, "4: 16 by 12", ordered(6, "p5x1 p2x1").bound(4), 2);
        E.is(16, "5: 18 by 18", ordered(6, "p5x1").bound(5), 1);
        E.is(16, "6: 24 by 24", ordered(6, "p5x1").bound(6), 1);
        E.is(16, "6: 30 by 24", ordered(6, "p5x1 p2x1").bound(6), 2);
        for (int k = 1; k <= 4; k++) {
            E.is(16, (k + 2) + ": a WIDE of 1", ordered(1, "p1x9").bound(k + 2), 9);
            E.is(16, (k + 2) + ": nothing of a small one", ordered(20, "p1x9*9").bound(k + 2), 0);
        }
    }

    private static void boundCutOff() {
        // t is WIDE, so that just the greatest F(w) is told
        int[] sixWide = {1, 2, 3, 6, 6, 6};
        for (int w = 1; w <= 6; w++) E.is(16, "7: " + w + " of 6", ordered(6, "p" + w + "x6").bound(7), sixWide[w - 1]);
        int[] sevenWide = {1, 2, 3, 4, 7, 7, 7};
        for (int w = 1; w <= 7; w++) E.is(16, "7: " + w + " of 7", ordered(7, "p" + w + "x7").bound(7), sevenWide[w - 1]);
        E.is(16, "7: WIDE 1, no e", ordered(1, "p1x9").bound(7), 0);
        E.is(16, "7: WIDE 2, 1", ordered(2, "p1x2").bound(7), 1);
        E.is(16, "7: WIDE 2, 2", ordered(2, "p2x2").bound(7), 2);
        E.is(16, "7: WIDE 3, 2", ordered(3, "p2x3").bound(7), 2);
        E.is(16, "7: WIDE 20, 11", ordered(20, "p11x5*4").bound(7), 20);
        E.is(16, "7: WIDE 20, 10", ordered(20, "p10x5*4").bound(7), 10);
        // e 3 of 6: 4 is WIDE, 3 stays 3, 2 is nothing
        E.is(16, "7: w is e", ordered(6, "p4x3 p3x2").bound(7), 4);
        E.is(16, "7: w is e less 1", ordered(6, "p4x3 p2x3").bound(7), 3);
        // e 1 of 6: 5 is not above 5, 6 is
        E.is(16, "7: the least e", ordered(6, "p6x1 p5x1 p1x1").bound(7), 2);
        // e 3: 36 * 2 are WIDE's, 1 x 9 is nothing: 108 by 6
        E.is(16, "7: below e it is just nothing", ordered(6, "p4x9*2 p1x9").bound(7), 18);
        E.is(16, "7: the least whole number not below", ordered(6, "p4x1 p1x1*2 p3x1").bound(7), 2);
    }

    private static void boundGreatest() {
        E.is(16, "8: 1 is the greatest", ordered(4, "p1x9").bound(8), 9);
        E.is(16, "8: 3 is the greatest", ordered(6, "p4x5 p3x1 p2x3").bound(8), 6);
        E.is(16, "8: 7 is the greatest", ordered(9, "p6x5 p4x3").bound(8), 7);
        // k 2 of 8: 6 x 3 is 16 * 3, 3 x 6 is 8 * 6: 96 by 16
        bounds("8: 4 is the greatest", ordered(8, "t6x3 t3x6"), 5, 3, 0, 0, 6, 4, 3, 5, 6);
        // k 3 of 11: 3 x 6 is 11 * 6, 9 x 6 is 33 * 6, as is 22 * 9: 264 by 33
        bounds("8: 5 is the greatest", ordered(11, "p3x6 t9x6"), 7, 6, 6, 6, 5, 8, 6, 7, 8);
        // k 4 of 9: 9 x 9 is 36 * 9, 2 x 9 is 9 * 9: 405 by 36
        bounds("8: 6 is the greatest", ordered(9, "p9x9 p2x9"), 11, 9, 9, 9, 9, 9, 12, 11, 12);
    }

    private static void bounds(String sentence, SkylineNester x, int... want) {
        for (int which = 0; which < 9; which++) E.is(16, sentence + ", which " + which, x.bound(which), want[which]);
    }

    private static void boundTurned() {
        E.is(16, "1: H is WIDE: the less of its two", ordered(5, "t3x5").bound(1), 3);
        E.is(16, "1: H is above WIDE: as it is", ordered(5, "t3x6").bound(1), 6);
        E.is(16, "1: it is less as it is", ordered(5, "t5x3").bound(1), 3);
        E.is(16, "1: its KIND may not", ordered(5, "p3x5").bound(1), 5);
        E.is(16, "0: a CLEAR one by the less area", ordered(1, "c1x1").bound(0), 2);
        E.is(16, "0: a CLEAR one, 12 or 9 by 3", ordered(3, "c3x2").bound(0), 3);
        E.is(16, "0: a CLEAR one, H above WIDE", ordered(4, "c2x5").bound(0), 3);
        E.is(16, "2: TURNED over it is no more above", ordered(4, "t3x2").bound(2), 0);
        E.is(16, "2: above both ways: the less t", ordered(4, "t3x4").bound(2), 3);
        E.is(16, "2: H above WIDE", ordered(4, "t3x5").bound(2), 5);
        E.is(16, "3: the less of its two", ordered(6, "t4x1").bound(3), 0);
        E.is(16, "4: the less of its two", ordered(6, "t2x6*2").bound(4), 4);
        // e 3 of 6: t4x3 is WIDE 3 as it is, 3 x 4 TURNED over: 12 by 6; e 1 and 2: 12
        E.is(16, "7: the less of its two by each e", ordered(6, "t4x3").bound(7), 2);
        SkylineNester x = Due.nester(6, "t4x1 c2x1");
        x.fix(0, 0, 0);
        E.is(16, "3: FIXED ones as they lie", x.bound(3), 1);
        E.is(16, "1: FIXED ones as they lie", x.bound(1), 1);
        x.fix(1, 4, 0);
        E.is(16, "0: FIXED ones as they lie, 8 by 6", x.bound(0), 2);
        E.is(16, "1: a FIXED CLEAR one", x.bound(1), 2);
    }

    // ---- promise 17

    private static void best() {
        Thought four = new Thought(Edge::rich);
        E.still(17, "k -1: TOP", Edge::rich, x -> x.best(-1), four.top);
        for (int k = 0; k < 4; k++) {
            int asked = k;
            E.still(17, "the k-th PART", Edge::rich, x -> x.best(asked), four.first[k]);
        }
        E.still(17, "-12: one behind the last", Edge::rich, x -> x.best(4), -12);
        E.still(17, "-12: k -2", Edge::rich, x -> x.best(-2), -12);
        E.still(17, "-12: k MIN", Edge::rich, x -> x.best(MIN), -12);
        E.still(17, "-12: k MAX", Edge::rich, x -> x.best(MAX), -12);
        Thought all = new Thought(BoundsEdgesTest::five);
        E.still(17, "5: TOP", BoundsEdgesTest::five, x -> x.best(-1), all.top);
        for (int k = 0; k < 5; k++) {
            int asked = k;
            E.still(17, "5: the k-th PART", BoundsEdgesTest::five, x -> x.best(asked), all.first[k]);
        }
        E.still(17, "-12: behind 5", BoundsEdgesTest::five, x -> x.best(5), -12);
        for (int k : new int[] {-2, -1, 0, 5, 6, MIN, MAX}) {
            E.still(17, "STATE: more than 5, ahead of -12, k " + k, BoundsEdgesTest::six, x -> x.best(k), STATE);
        }
        E.is(17, "STATE: 10", ordered(1, "p1x1*9p1x1").best(-1), STATE);
        E.is(17, "TOP of no PARTS", new SkylineNester().best(-1), 0);
        E.is(17, "-12: no PARTS", new SkylineNester().best(0), -12);
        E.still(17, "an empty ORDER: TOP of FIXED ones", BoundsEdgesTest::emptyOrder, x -> x.best(-1), 10);
        E.still(17, "-12: an empty ORDER", BoundsEdgesTest::emptyOrder, x -> x.best(0), -12);
        SkylineNester one = ordered(3, "p1x4");
        E.is(17, "an ORDER of one: TOP", one.best(-1), 4);
        E.is(17, "an ORDER of one", one.best(0), 0);
        E.is(17, "-12: an ORDER of one", one.best(1), -12);
    }

    private static void bestFirst() {
        SkylineNester x = Due.nester(5, "p1x1*6");
        Due.order(x, 0, 5, 3, 1, 4, 2);
        for (int k = 0; k < 5; k++) E.is(17, "alike: the first order by numbers", x.best(k), k + 1);
        // only the last of all orders lays all
        SkylineNester v = Due.nester(2, "g2x2:4 s1x4:4 h2x2:2 p1x1:2 s1x2:3");
        v.order(NONE);
        for (int k = 0; k < 5; k++) E.is(17, "the last order by numbers", v.best(k), 4 - k);
        E.is(17, "the last order's TOP", v.best(-1), new Thought(() -> ordered(2, "g2x2:4 s1x4:4 h2x2:2 p1x1:2 s1x2:3")).top);
        // a lower TOP that doesn't lay all is none: s1x9:2 behind p2x1 is left out at TOP 1
        SkylineNester y = ordered(2, "p2x1 s1x9:2");
        E.is(17, "by which all are LAID", y.best(-1), 10);
        E.is(17, "by which all are LAID, the first", y.best(0), 1);
        SkylineNester z = ordered(4, "p3x1 p1x3 p3x2");
        z.swap(0, 2);
        E.is(17, "a TOP as low as in the first is no better", z.best(0), 0);
        E.is(17, "THE ORDER stays", z.swap(0, 0), 2);
    }

    private static SkylineNester unlaid() {
        SkylineNester x = Due.nester(2, "s2x1:2 s2x1:3");
        x.order(NONE);
        return x;
    }

    private static void bestNone() {
        E.still(17, "NONE: no order lays all, TOP", BoundsEdgesTest::unlaid, x -> x.best(-1), NONE);
        E.still(17, "NONE: no order lays all, the first", BoundsEdgesTest::unlaid, x -> x.best(0), NONE);
        E.still(17, "NONE: no order lays all, the last", BoundsEdgesTest::unlaid, x -> x.best(1), NONE);
        E.still(17, "-12 ahead of NONE", BoundsEdgesTest::unlaid, x -> x.best(2), -12);
        E.still(17, "-12 ahead of NONE, k -2", BoundsEdgesTest::unlaid, x -> x.best(-2), -12);
        E.is(17, "STATE ahead of NONE", ordered(2, "s2x1:2*3 s2x1:3*3").best(-1), STATE);
        // s1x1:2 lies over the FIXED one at 1 only: no order lays it
        SkylineNester x = Due.nester(1, "p1x1 s1x1:2");
        x.fix(0, 0, 0);
        x.order(NONE);
        E.is(17, "NONE: by a FIXED one", x.best(-1), NONE);
    }

    // ---- promise 18

    private static void layouts() {
        for (int what : new int[] {-1, 2, MIN, MAX}) {
            E.still(18, "BAD: what " + what, Edge::rich, x -> x.layouts(what), BAD);
            E.still(18, "BAD ahead of STATE: what " + what, BoundsEdgesTest::six, x -> x.layouts(what), BAD);
        }
        for (int what = 0; what < 2; what++) {
            int asked = what;
            E.still(18, "STATE: 6", BoundsEdgesTest::six, x -> x.layouts(asked), STATE);
            E.is(18, "STATE: 10", ordered(1, "p1x1*9p1x1").layouts(what), STATE);
            E.is(18, "an empty ORDER: the one order comes to one", new SkylineNester().layouts(what), 1);
            E.still(18, "an empty ORDER, FIXED ones", BoundsEdgesTest::emptyOrder, x -> x.layouts(asked), 1);
            E.is(18, "an ORDER of one", ordered(3, "p1x4").layouts(what), 1);
            E.still(18, "0: no order lays all", BoundsEdgesTest::unlaid, x -> x.layouts(asked), 0);
        }
        E.is(18, "5 alike ones: one", ordered(7, "p1x1*5").layouts(0), 1);
        E.is(18, "5 alike ones: 120 orders", ordered(7, "p1x1*5").layouts(1), 120);
        // five widths side by side with a column free: each order is a layout of its own
        E.is(18, "5 unlike ones: 120", ordered(16, "p1x1 p2x1 p3x1 p4x1 p5x1").layouts(0), 120);
        E.is(18, "5 unlike ones: one order each", ordered(16, "p1x1 p2x1 p3x1 p4x1 p5x1").layouts(1), 1);
        E.is(18, "no column free: each is turned over", ordered(15, "p1x1 p2x1 p3x1 p4x1 p5x1").layouts(0), 60);
        E.is(18, "no column free: two orders each", ordered(15, "p1x1 p2x1 p3x1 p4x1 p5x1").layouts(1), 2);
    }

    private static void layoutsAlike() {
        // s1x1:9 lies at 0, 0 alone, so it must be the first: 2 of 6 orders lay all
        SkylineNester x = ordered(2, "s1x1:9 p1x2 p2x1");
        E.is(18, "only orders that lay all", x.layouts(0), 2);
        E.is(18, "only orders that lay all: one each", x.layouts(1), 1);
        // one 1 x 1 lies at 0, at 1 or at 2 below a FIXED one all wide, or above all: at 0 and at 2 that is alike
        SkylineNester below = Due.nester(3, "p3x1 p1x1 p1x2*3");
        below.fix(0, 0, 1);
        below.order(NONE);
        E.is(18, "only the lowest one lies otherwise", below.layouts(0), 3);
        E.is(18, "only the lowest one lies otherwise: two of four places are alike", below.layouts(1), 12);
        SkylineNester above = Due.nester(4, "p4x1 p1x2 p3x2");
        above.fix(0, 0, 0);
        above.order(NONE);
        E.is(18, "the lowest one lies alike, those above are turned over", above.layouts(0), 1);
        SkylineNester ten = Due.nester(5, "p1x1*9p1x1");
        for (int part = 0; part < 5; part++) ten.fix(part, part, 30);
        ten.order(NONE);
        E.is(18, "10 lie", ten.layouts(0), 1);
        E.is(18, "10 lie: 120 orders", ten.layouts(1), 120);
        SkylineNester last = Due.nester(7, "p1x1*5");
        Due.order(last, 0, 4, 3, 2, 1, 0);
        E.is(18, "all orders, whichever THE ORDER is", last.layouts(1), 120);
        // 1 x 1 lay at the left side, and lies no more
        SkylineNester gone = Due.nester(4, "p1x1 p1x2 p3x2");
        gone.lay(0);
        Due.order(gone, 0, 1, 2);
        E.is(18, "what lies but isn't in THE ORDER goes by a RUN", gone.layouts(0), 1);
        // alike by turning the strip over
        E.is(18, "turned over they are the same", ordered(4, "p1x2 p3x2").layouts(0), 1);
        E.is(18, "turned over they are the same: both orders", ordered(4, "p1x2 p3x2").layouts(1), 2);
        E.is(18, "turned over they are not: a column is free", ordered(5, "p1x2 p3x2").layouts(0), 2);
        // a FIXED one that isn't in the middle, on a strip of 4: turned over it lies elsewhere
        SkylineNester y = Due.nester(4, "p1x2 p3x2 p1x1");
        y.fix(2, 0, 20);
        y.order(NONE);
        E.is(18, "FIXED ones too: at the side", y.layouts(0), 2);
        SkylineNester z = Due.nester(4, "p1x2 p3x2 p2x1");
        z.fix(2, 1, 20);
        z.order(NONE);
        E.is(18, "FIXED ones too: in the middle", z.layouts(0), 1);
        // the same rectangles of other PARTS, of other KINDS
        E.is(18, "whichever of alike PARTS they are of", ordered(8, "p2x1 t2x1:3 g2x1 p1x1").layouts(0), 4);
        // one 1 x 3 of a CLEAR one is one rectangle as one 1 x 3 of a PLAIN one
        E.is(18, "w and t alone", ordered(3, "c1x2 p1x3").layouts(0), 1);
        E.is(18, "t, not h", ordered(3, "c1x3 p1x3").layouts(0), 2);
        E.is(18, "their y, not their x", ordered(2, "p1x1*2 p1x3").layouts(0), 2);
        E.is(18, "their w, not their x", ordered(4, "p1x3 p3x1 t2x1").layouts(0), 6);
        SkylineNester turned = ordered(3, "t1x2 p1x3");
        turned.rule(3, 1);
        E.is(18, "their w, not their t", turned.layouts(0), 2);
        SkylineNester many = ordered(7, "p2x1*2 p1x1");
        E.is(18, "unlike ones: 1 x 1 left, between, right", many.layouts(0), 3);
        E.is(18, "two orders each", many.layouts(1), 2);
        // 1 x 2 above or beside: of the three of one all orders but those are more
        SkylineNester most = ordered(3, "p1x1*2 p1x2");
        E.is(18, "two of three are alike turned over", most.layouts(0), 2);
        E.is(18, "the one to which most do", most.layouts(1), 4);
    }

    // ---- promise 19

    /** Parts of these items FIXED at places told by x, y. */
    private static int stagesOf(int wide, String items, int... places) {
        SkylineNester x = Due.nester(wide, items);
        for (int k = 0; 2 * k < places.length; k++) E.is(7, "fix for stages", x.fix(k, places[2 * k], places[2 * k + 1]), 1);
        return x.stages();
    }

    private static void stagesFew() {
        E.is(19, "0: no PARTS", new SkylineNester().stages(), 0);
        E.is(19, "0: none lies", ordered(3, "p1x1*3").stages(), 0);
        E.is(19, "0: one lies", stagesOf(3, "p1x1*3", 1, 1), 0);
        E.is(19, "two lie", stagesOf(3, "p1x1*3", 1, 1, 1, 2), 1);
        E.still(19, "it changes nothing", Edge::rich, SkylineNester::stages, Edge.rich().stages());
        SkylineNester x = ordered(3, "p3x1*2");
        x.run();
        E.is(19, "what is LAID", x.stages(), 1);
        x.lay(NONE);
        E.is(19, "it goes", x.stages(), 0);
        SkylineNester y = Due.nester(2, "p1x2 p2x1 p1x1");
        for (int k = 0; k < 3; k++) y.lay(k);
        E.is(19, "what lies in WASTE, too", y.told(2, 7), 3);
        E.is(19, "across, then up", y.stages(), 2);
        E.is(19, "10 side by side", stagesOf(10, "p1x9*9p1x9", 0, 0, 1, 1, 2, 2, 3, 3, 4, 4, 5, 5, 6, 6, 7, 7, 8, 8, 9, 9), 1);
        E.is(19, "10 above one another",
            stagesOf(10, "p9x1*9p9x1", 0, 0, 1, 1, 0, 2, 1, 3, 0, 4, 1, 5, 0, 6, 1, 7, 0, 8, 1, 9), 1);
    }

    private static void stagesLines() {
        E.is(19, "a line just at both", stagesOf(4, "p2x2*2", 0, 0, 2, 1), 1);
        E.is(19, "no line up through one, across through none", stagesOf(4, "p2x2*2", 0, 0, 1, 2), 1);
        E.is(19, "a line across just at both", stagesOf(4, "p2x2*2", 0, 1, 1, 3), 1);
        E.is(19, "NONE: none through a rectangle", stagesOf(3, "p2x1 p1x2 p2x1 p1x2", 0, 0, 2, 0, 1, 2, 0, 1), NONE);
        E.is(19, "NONE: turned the other way", stagesOf(3, "p2x1 p1x2 p2x1 p1x2", 1, 0, 2, 1, 0, 2, 0, 0), NONE);
        E.is(19, "NONE: with one in the middle", stagesOf(3, "p2x1 p1x2 p2x1 p1x2 p1x1", 0, 0, 2, 0, 1, 2, 0, 1, 1, 1), NONE);
        E.is(19, "NONE: the last piece can't be cut",
            stagesOf(4, "p2x1 p1x2 p2x1 p1x2 p1x1", 0, 0, 2, 0, 1, 2, 0, 1, 3, 0), NONE);
        // without one of the four it can be cut: across, up
        E.is(19, "three of them", stagesOf(3, "p2x1 p1x2 p2x1", 0, 0, 2, 0, 1, 2), 2);
        E.is(19, "a line through the whole piece alone", stagesOf(4, "p1x3 p2x1 p2x1 p1x3", 0, 0, 1, 0, 1, 2, 3, 0), 2);
        E.is(19, "t of a CLEAR one", stagesOf(2, "c1x1 p1x1 p1x1 p1x1", 0, 0, 1, 0, 0, 2, 1, 1), 2);
        E.is(19, "far apart", stagesOf(20, "p1x1*2", 0, 0, 19, 60), 1);
        E.is(19, "a line where neither has a side in the other's heights", stagesOf(20, "p1x1*3", 0, 0, 5, 50, 19, 20), 1);
    }

    private static void stagesWays() {
        E.is(19, "all lines of a way at once", stagesOf(6, "p2x1*3", 0, 0, 2, 0, 4, 0), 1);
        E.is(19, "up, then across", stagesOf(4, "p2x3 p2x1 p2x2", 0, 0, 2, 0, 2, 1), 2);
        E.is(19, "across, then up", stagesOf(4, "p4x1 p2x1 p2x1", 0, 1, 0, 0, 2, 0), 2);
        E.is(19, "either way: 2", stagesOf(2, "p1x1*4", 0, 0, 1, 0, 0, 1, 1, 1), 2);
        // a grid of 2 by 2 pieces, one of them of two: across first 2, up first 3
        E.is(19, "the way by which there are fewer: across first",
            stagesOf(3, "p2x1 p1x1 p1x1 p2x1", 0, 0, 2, 0, 0, 1, 1, 1), 2);
        E.is(19, "the way by which there are fewer: up first",
            stagesOf(2, "p1x2 p1x1 p1x1 p1x2", 0, 0, 0, 2, 1, 0, 1, 1), 2);
        E.is(19, "three", stagesOf(6, "p3x2 p3x1 p3x1 p1x2 p2x2", 0, 0, 0, 2, 3, 0, 3, 1, 4, 1), 3);
        SkylineNester x = Due.nester(10, "p1x9 p9x1 p1x8 p8x1 p1x7 p7x1 p1x6 p6x1 p1x5 p5x1");
        int[] at = {0, 0, 1, 8, 1, 0, 2, 7, 2, 0, 3, 6, 3, 0, 4, 5, 4, 0, 5, 4};
        for (int k = 0; k < 10; k++) x.fix(k, at[2 * k], at[2 * k + 1]);
        E.is(19, "no more than 9: one goes in each", x.stages(), 9);
    }

    // ---- promise 20

    private static void centre() {
        for (int what : new int[] {-1, 3, MIN, MAX}) {
            E.still(20, "BAD: what " + what, Edge::rich, x -> x.centre(what), BAD);
            E.is(20, "BAD ahead of STATE: what " + what, new SkylineNester().centre(what), BAD);
        }
        for (int what = 0; what < 3; what++) {
            int asked = what;
            E.is(20, "STATE: no PARTS", new SkylineNester().centre(what), STATE);
            E.still(20, "STATE: nothing lies", () -> ordered(4, "p1x1*3"), x -> x.centre(asked), STATE);
        }
        // 6, 6, 2, 2 of THE ORDER, 2 of the one TURNED over, 1 FIXED, 1 in WASTE
        float x = (6 * 1f + 6 * 3.5f + 2 * 1f + 2 * 3f + 2 * 5f + 5.5f + 5.5f) / 20f;
        float y = (6 * 1.5f + 6 * 1f + 2 * 3.5f + 2 * 2.5f + 2 * 2.5f + 9.5f + 0.5f) / 20f;
        E.still(20, "x of all that lies", Edge::rich, n -> n.centre(0), Float.floatToIntBits(x));
        E.still(20, "y of all that lies", Edge::rich, n -> n.centre(1), Float.floatToIntBits(y));
        E.still(20, "FILL of all that lies", Edge::rich, n -> n.centre(2), Float.floatToIntBits(20f / 60f));
    }

    private static void centreAt(int wide, String items, int x, int y, float... want) {
        SkylineNester n = Due.nester(wide, items);
        n.fix(0, x, y);
        for (int what = 0; what < 3; what++) {
            E.is(20, items + " at " + x + ", " + y + " of " + wide, n.centre(what), Float.floatToIntBits(want[what]));
        }
    }

    private static void centreBits() {
        centreAt(1, "p1x1", 0, 0, 0.5f, 0.5f, 1f);
        centreAt(20, "p1x1", 19, 60, 19.5f, 60.5f, 1f / 1220f);
        centreAt(20, "p20x9", 0, 0, 10f, 4.5f, 1f);
        centreAt(3, "p2x3", 0, 0, 1f, 1.5f, 6f / 9f);
        centreAt(4, "p1x3", 2, 1, 2.5f, 2.5f, 3f / 16f);
        centreAt(4, "c2x2", 1, 1, 2f, 2.5f, 6f / 16f);
        centreAt(2, "p2x1", 0, 1, 1f, 1.5f, 0.5f);
        centreAt(20, "c20x9", 0, 60, 10f, 65f, 200f / 1400f);
        SkylineNester gone = Due.nester(6, "p1x1*2");
        gone.lay(0);
        gone.lay(1);
        E.is(20, "both lie", gone.centre(0), Float.floatToIntBits(1f));
        gone.lay(NONE);
        gone.fix(0, 5, 0);
        E.is(20, "one lies no more: x", gone.centre(0), Float.floatToIntBits(5.5f));
        E.is(20, "one lies no more: FILL", gone.centre(2), Float.floatToIntBits(1f / 6f));
        // a quotient that is no float: the nearest one
        SkylineNester x = Due.nester(7, "p3x2 p1x1 c2x2");
        for (int k = 0; k < 3; k++) x.lay(k);
        E.is(20, "x by m", x.centre(0), Float.floatToIntBits(42.5f / 13f));
        E.is(20, "y by m", x.centre(1), Float.floatToIntBits(15.5f / 13f));
        E.is(20, "FILL", x.centre(2), Float.floatToIntBits(13f / 21f));
        SkylineNester tower = ordered(1, "p1x9*9p1x9");
        tower.run();
        E.is(20, "a tower of 90", tower.centre(1), Float.floatToIntBits(45f));
        E.is(20, "a full tower", tower.centre(2), Float.floatToIntBits(1f));
    }

    // ---- promises 21 and 22

    private static SkylineNester drawing() {
        SkylineNester x = ordered(5, "p3x2 p2x5 p4x1 p1x4 p5x1 p2x2");
        x.rule(0, 0);
        return x;
    }

    private static void drawn() {
        for (int n : new int[] {-1, 21, MIN, MAX}) E.still(21, "BAD: n " + n, Edge::rich, x -> x.drawn(1, n), BAD);
        for (int n : new int[] {0, 1, 19, 20}) {
            E.still(21, "n " + n, Edge::rich, x -> x.drawn(1, n), Thought.topBySwaps(Edge::rich, 1, n));
        }
        E.is(21, "n 0: a RUN", drawing().drawn(77, 0), Thought.topBySwaps(BoundsEdgesTest::drawing, 77, 0));
        E.is(21, "BAD: an empty ORDER", new SkylineNester().drawn(1, 21), BAD);
        E.is(21, "no draws if it is empty", new SkylineNester().drawn(1, 20), 0);
        E.still(21, "no draws if it is empty: TOP of FIXED ones", BoundsEdgesTest::emptyOrder, x -> x.drawn(1, 20), 10);
        E.is(21, "one place", ordered(3, "p1x4").drawn(-1, 20), 4);
        // two places: exchanged or not is all there is; by p2x1 first s1x1:2 is left out
        int[] tops = {1, 2};
        for (int seed = 0; seed < 20; seed++) {
            int top = Thought.topBySwaps(() -> ordered(2, "s1x1:2 p2x1"), seed, 1);
            E.is(21, "two places", ordered(2, "s1x1:2 p2x1").drawn(seed, 1), top);
            tops[top - 1] = 0;
        }
        E.row(21, "both were met", tops, 0, 0);
        SkylineNester ten = ordered(6, "p1x1 p2x1 p3x1 p4x1 p5x1 p1x2 p2x2 p3x2 p4x2 p5x2");
        Supplier<SkylineNester> making = () -> ordered(6, "p1x1 p2x1 p3x1 p4x1 p5x1 p1x2 p2x2 p3x2 p4x2 p5x2");
        for (int seed = 0; seed < 30; seed++) E.is(21, "10 places", ten.drawn(seed, 20), Thought.topBySwaps(making, seed, 20));
    }

    private static void drawnSeeds() {
        int[] seeds = {0, 1, -1, MAX, MIN, MAX - 1, MIN + 1, 1103515245, -12345, 1 << 30};
        for (int seed : seeds) {
            for (int n = 0; n <= 20; n++) {
                E.is(21, "SEED " + seed + ", n " + n, drawing().drawn(seed, n), Thought.topBySwaps(BoundsEdgesTest::drawing, seed, n));
            }
        }
        // SEED 0: z is 12345, then the int -740551042, which is 3554416254 without a sign
        E.row(21, "z is an int, >>> makes it no number below 0", Thought.numbers(0, 2, 5), 24 % 5, (-740551042 >>> 9) % 5);
    }

    private static void chance() {
        for (int m : new int[] {0, 9, -1, MIN, MAX}) E.still(22, "BAD: m " + m, Edge::rich, x -> x.chance(1, m, 5, 0), BAD);
        for (int top : new int[] {-1, MIN}) E.still(22, "BAD: top " + top, Edge::rich, x -> x.chance(1, 1, top, 0), BAD);
        for (int part : new int[] {-1, 2, MIN, MAX}) {
            E.still(22, "BAD: part " + part, Edge::rich, x -> x.chance(1, 1, 5, part), BAD);
        }
        for (int m : new int[] {1, 8}) {
            E.still(22, "m " + m + ": none", Edge::rich, x -> x.chance(1, m, 9, 0), 0);
            E.still(22, "m " + m + ": none, in lowest terms", Edge::rich, x -> x.chance(1, m, 9, 1), 1);
            E.still(22, "m " + m + ": all, TOP is just told", Edge::rich, x -> x.chance(1, m, 10, 0), 1);
            E.still(22, "m " + m + ": all, in lowest terms", Edge::rich, x -> x.chance(1, m, 10, 1), 1);
        }
        E.is(22, "top MAX", drawing().chance(1, 8, MAX, 0), 1);
        E.is(22, "top 0: none", drawing().chance(1, 8, 0, 0), 0);
        E.is(22, "top 0: an empty strip", new SkylineNester().chance(1, 8, 0, 0), 1);
        E.is(22, "top 0: an empty strip, below the line", new SkylineNester().chance(1, 8, 0, 1), 1);
        E.still(22, "an empty ORDER: TOP of FIXED ones isn't above it", BoundsEdgesTest::emptyOrder,
            x -> x.chance(1, 3, 10, 0), 1);
        E.still(22, "an empty ORDER: TOP of FIXED ones is above it", BoundsEdgesTest::emptyOrder,
            x -> x.chance(1, 3, 9, 0), 0);
    }

    private static void chanceSeeds() {
        boolean[] met = new boolean[9];
        for (int seed : new int[] {1, 40, 1000, -5, MAX, MAX - 3, MAX - 7, MIN}) {
            int[] tops = new int[8];
            for (int k = 0; k < 8; k++) tops[k] = Thought.topBySwaps(BoundsEdgesTest::drawing, seed + k, 6);
            for (int m = 1; m <= 8; m++) {
                for (int top = 6; top < 14; top++) {
                    int low = 0;
                    for (int k = 0; k < m; k++) if (tops[k] <= top) low++;
                    int by = BigInteger.valueOf(low).gcd(BigInteger.valueOf(m)).intValue();
                    String told = "SEED " + seed + ", " + low + " of " + m;
                    E.is(22, told + ", above", drawing().chance(seed, m, top, 0), low / by);
                    E.is(22, told + ", below", drawing().chance(seed, m, top, 1), m / by);
                    if (m == 8) met[low] = true;
                }
            }
        }
        for (int low = 1; low <= 6; low++) E.is(22, low + " of 8 was met", met[low] ? 1 : 0, 1);
        // SEED MAX: the next is MIN
        int most = Thought.topBySwaps(BoundsEdgesTest::drawing, MAX, 6);
        int next = Thought.topBySwaps(BoundsEdgesTest::drawing, MIN, 6);
        E.is(22, "MAX and MIN come to unlike TOPS", most == next ? 1 : 0, 0);
        E.is(22, "behind MAX the next is MIN: above", drawing().chance(MAX, 2, Math.min(most, next), 0), 1);
        E.is(22, "behind MAX the next is MIN: below", drawing().chance(MAX, 2, Math.min(most, next), 1), 2);
    }

    // ---- promise 23

    private static SkylineNester told(int wide, int n) {
        SkylineNester x = Due.nester(wide, "");
        x.sheet(0, 1, n);
        return x;
    }

    private static void tellsAsked() {
        for (int what = 0; what < 3; what++) {
            int asked = what;
            for (int sheet : new int[] {-1, 4, MIN, MAX}) {
                E.still(23, "BAD: SHEET " + sheet, Edge::rich, x -> x.tells(sheet, asked), BAD);
            }
            E.still(23, "-11: it is missing", Edge::rich, x -> x.tells(2, asked), -11);
            for (int k = 0; k < 4; k++) E.is(23, "-11: missing at first", new SkylineNester().tells(k, what), -11);
            E.still(23, "BAD: it tells 21", () -> told(20, 21), x -> x.tells(0, asked), BAD);
            E.still(23, "BAD: it tells 40", () -> told(20, 40), x -> x.tells(0, asked), BAD);
            E.is(23, "20 is told", told(20, 20).tells(0, what), new int[] {NONE, 15, 0}[what]);
            E.is(23, "21 of shorts", twentyOneShorts().tells(0, what), BAD);
            SkylineNester gone = told(20, 21);
            gone.sheet(0, NONE, 0);
            E.is(23, "-11: one that told 21", gone.tells(0, what), -11);
        }
        for (int what : new int[] {-1, 3, MIN, MAX}) {
            E.still(23, "BAD: what " + what, Edge::rich, x -> x.tells(0, what), BAD);
            E.still(23, "BAD ahead of -11: what " + what, Edge::rich, x -> x.tells(2, what), BAD);
        }
        E.still(23, "what 0 changes nothing", Edge::rich, x -> x.tells(0, 0), NONE);
        E.still(23, "what 1 changes nothing", Edge::rich, x -> x.tells(0, 1), 0);
        E.still(23, "what 2 changes nothing", Edge::rich, x -> x.tells(0, 2), 0);
    }

    private static SkylineNester twentyOneShorts() {
        SkylineNester x = Due.nester(20, "");
        x.sheet(0, 0, 21);
        return x;
    }

    private static void tellsFirst() {
        SkylineNester x = Due.nester(4, "p1x4 p1x3 p1x2 p1x1");
        for (int k = 0; k < 4; k++) x.lay(k);
        int[] heights = {4, 3, 2, 1};
        for (int sort = 0; sort < 2; sort++) {
            Due.tell(x, 0, sort, heights);
            E.is(23, "NONE: all are told", x.tells(0, 0), NONE);
            for (int i = 0; i < 4; i++) {
                for (int by : new int[] {-1, 1}) {
                    x.put(0, i, heights[i] + by);
                    E.is(23, "the first that is otherwise by " + by, x.tells(0, 0), i);
                    x.put(0, i, heights[i]);
                }
            }
            Due.tell(x, 0, sort, 4, 0, 2, 0);
            E.is(23, "the first of two", x.tells(0, 0), 1);
            Due.tell(x, 0, sort, 4, 3, 2);
            E.is(23, "one too few", x.tells(0, 0), 3);
            Due.tell(x, 0, sort, 4, 3, 2, 1, 0);
            E.is(23, "one too many", x.tells(0, 0), 4);
            Due.tell(x, 0, sort, 4, 3, 0, 1, 0);
            E.is(23, "one that is otherwise ahead of one too many", x.tells(0, 0), 2);
            Due.tell(x, 0, sort, 0, 3);
            E.is(23, "one that is otherwise ahead of one too few", x.tells(0, 0), 0);
            Due.tell(x, 0, sort);
            E.is(23, "none at all: too few", x.tells(0, 0), 0);
        }
        E.is(23, "WIDE 20, 19 are told", told(20, 19).tells(0, 0), 19);
        E.is(23, "WIDE 19, 20 are told", told(19, 20).tells(0, 0), 19);
        E.is(23, "WIDE 1, 1 is told", told(1, 1).tells(0, 0), NONE);
        E.is(23, "WIDE 1, 2 are told", told(1, 2).tells(0, 0), 1);
        Due.tell(x, 0, 0, 65536 + 4, 3 - 65536, 2, 1);
        E.is(23, "shorts wrap around", x.tells(0, 0), NONE);
        Due.tell(x, 0, 0, 32768 + 4, 3, 2, 1);
        E.is(23, "shorts wrap around at 16 bits, not 15", x.tells(0, 0), 0);
        Due.tell(x, 0, 1, 65536 + 4, 3, 2, 1);
        E.is(23, "ints don't", x.tells(0, 0), 0);
    }

    /** A SHEET tells what a RUN by one RULE comes to; RULES are those by which a RUN comes to the same. */
    private static void tellsRules() {
        boolean[] met = new boolean[16];
        String[] items = {"p2x4 p1x2 p2x1", "p3x2 t4x1", "p1x2 p1x3", "p2x2 p4x1 p1x1", "p4x1 p1x9 p1x1", "t1x2 t3x3 t4x2"};
        for (String item : items) {
            for (int waste = 0; waste < 2; waste++) {
                int[][] heights = new int[4][];
                for (int rule = 0; rule < 4; rule++) {
                    SkylineNester x = ordered(5, item);
                    x.rule(rule, waste);
                    x.run();
                    heights[rule] = Due.heights(x);
                }
                for (int rule = 0; rule < 4; rule++) {
                    SkylineNester x = ordered(5, item);
                    x.rule(3 - rule, waste);
                    Due.tell(x, 1, rule % 2, heights[rule]);
                    int want = 0;
                    for (int k = 0; k < 4; k++) if (java.util.Arrays.equals(heights[k], heights[rule])) want |= 1 << k;
                    E.is(23, "RULES by which " + item + " comes to it, WASTE " + waste, x.tells(1, 1), want);
                    E.is(23, "THE RULE stays", x.rule(0, 0), 2 * (3 - rule) + waste);
                    met[want] = true;
                    Due.tell(x, 1, 1, java.util.Arrays.copyOf(heights[rule], 4));
                    E.is(23, "one too few: no RULE", x.tells(1, 1), 0);
                    Due.tell(x, 1, 1, java.util.Arrays.copyOf(heights[rule], 6));
                    E.is(23, "one too many: no RULE", x.tells(1, 1), 0);
                }
            }
        }
        for (int bits : new int[] {1, 2, 4, 8, 15}) E.is(23, "RULES " + bits + " were met", met[bits] ? 1 : 0, 1);
        E.is(23, "an empty ORDER: all RULES", told(20, 20).tells(0, 1), 15);
        E.is(23, "an empty SHEET: no RULE", told(20, 0).tells(0, 1), 0);
        SkylineNester y = ordered(4, "p2x1 p4x1 p2x1");
        Due.tell(y, 0, 1, 2, 2, 2, 2);
        E.is(23, "WASTE as it is: used", y.tells(0, 1), 15);
        y.rule(0, 0);
        E.is(23, "WASTE as it is: not used", y.tells(0, 1), 0);
    }

    private static void tellsPairs() {
        SkylineNester ten = ordered(20, "p1x1*9p1x1");
        Due.tell(ten, 0, 0, 1, 1, 1, 1, 1, 1, 1, 1, 1, 1, 0, 0, 0, 0, 0, 0, 0, 0, 0, 0);
        E.is(23, "10 places: all 45 pairs", ten.tells(0, 2), 45);
        SkylineNester two = ordered(3, "p1x1 p1x2");
        Due.tell(two, 0, 1, 2, 1, 0);
        E.is(23, "2 places: one pair", two.tells(0, 2), 1);
        E.is(23, "THE ORDER stays", two.swap(0, 0), 0);
        Due.tell(two, 0, 1, 1, 2, 0);
        E.is(23, "as it is now is no pair", two.tells(0, 2), 0);
        SkylineNester one = ordered(3, "p1x1");
        Due.tell(one, 0, 1, 1, 0, 0);
        E.is(23, "1 place: no pair", one.tells(0, 2), 0);
        E.is(23, "an empty ORDER: no pair", told(20, 20).tells(0, 2), 0);
        SkylineNester three = ordered(3, "p1x1 p1x2 p1x3");
        int[][] heights = {{2, 1, 3}, {3, 2, 1}, {1, 3, 2}};
        for (int[] told : heights) {
            Due.tell(three, 0, 1, told);
            E.is(23, "3 places: one pair each", three.tells(0, 2), 1);
        }
        for (int[] told : new int[][] {{1, 2, 3}, {2, 3, 1}, {3, 1, 2}}) {
            Due.tell(three, 0, 1, told);
            E.is(23, "3 places: by no one pair", three.tells(0, 2), 0);
        }
        Due.tell(three, 0, 1, 2, 1);
        E.is(23, "one too few: no pair", three.tells(0, 2), 0);
        Due.tell(three, 0, 1, 2, 1, 3, 0);
        E.is(23, "one too many: no pair", three.tells(0, 2), 0);
        SkylineNester y = ordered(4, "p2x1 p4x1 p2x1");
        Due.tell(y, 0, 1, 2, 2, 2, 2);
        y.rule(1, 0);
        E.is(23, "by THE RULE, WASTE as it is", y.tells(0, 2), 2);
    }
}
