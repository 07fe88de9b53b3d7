/** Promises 16 to 23: bound, best, layouts, stages, centre, drawn, chance, tells. */
public final class BoundsTest {
    private static final Due D = new Due("BoundsTest");
    private static final int NONE = Due.NONE, BAD = Due.BAD, STATE = Due.STATE;

    public static void main(String[] args) {
        bound();
        boundShared();
        boundCutOff();
        boundTurned();
        boundFixed();
        best();
        bestChecks();
        layouts();
        layoutsFixed();
        stages();
        stagesChecks();
        centre();
        drawn();
        chance();
        tells();
        tellsChecks();
        D.end();
    }

    private static void bounds(String name, SkylineNester x, int... want) {
        for (int which = 0; which < 9; which++) D.due(name + ": bound(" + which + ")", x.bound(which), want[which]);
    }

    private static void bound() {
        SkylineNester x = Due.nester(10, "p6x3 p5x2 c4x1 p1x1");
        D.due("bound(-1)", x.bound(-1), BAD);
        D.due("bound(9)", x.bound(9), BAD);
        bounds("no order", x, 0, 0, 0, 0, 0, 0, 0, 0, 0);
        x.order(NONE);
        // areas 18 + 10 + 5 (c turned over; 8 as it is) + 1 = 34; 6 is above 5, 5 is not
        D.due("areas, not a whole number", x.bound(0), 4);
        D.due("tallest", x.bound(1), 3);
        D.due("2 w above WIDE", x.bound(2), 3);
        Due.order(x, 0, 3);
        D.due("only the order's", x.bound(0), 1);
        D.due("only the order's tallest", x.bound(1), 1);
        D.due("none is wide", x.bound(2), 0);
        Due.order(x, 0, 1, 3, 0);
        // e 5: 6 is above 5 and whole, 5 is 5, 1 is nothing: 30 + 10
        bounds("three", x, 3, 3, 3, 4, 3, 3, 3, 4, 4);
    }

    private static void boundShared() {
        // WIDE 6: U of 4 by k 1: 2 * 4 = 8, once 6; of 3: 6 is a multiple: 3
        SkylineNester x = Due.nester(6, "p4x5 p3x1 p2x3");
        x.order(NONE);
        // k 1: (6 * 5 + 3 * 1 + 0) / 6 = 5.5
        D.due("k 1", x.bound(3), 6);
        // k 2: 4: 12, a multiple: 8; 3: 9, once: 6; 2: 6, a multiple: 4: (40 + 6 + 12) / 12 = 4.8
        D.due("k 2", x.bound(4), 5);
        // k 3: 4: 16, twice: 12; 3: 12, a multiple: 9; 2: 8, once: 6: (60 + 9 + 18) / 18 = 4.8
        D.due("k 3", x.bound(5), 5);
        // k 4: 4: 20, 3 times: 18; 3: 15, twice: 12; 2: 10, once: 6: (90 + 12 + 18) / 24 = 5
        D.due("k 4", x.bound(6), 5);
        D.due("the greatest", x.bound(8), 6);
    }

    private static void boundCutOff() {
        // WIDE 7: e 1 .. 3. 5 is whole from e 3 on; 2 is nothing for e 3
        SkylineNester x = Due.nester(7, "p5x4 p2x1");
        x.order(NONE);
        // e 1: 20 + 2 = 22 by 7: 4; e 2: 5 is not above 5: 22; e 3: 7 * 4 = 28 by 7: 4
        D.due("e 3", x.bound(7), 4);
        Due.order(x, 0, 0);
        // areas 20 by 7: 3; e 3: 4
        D.due("areas", x.bound(0), 3);
        D.due("e 3 is better", x.bound(7), 4);
        // WIDE 9, e 4: 6 is above 5, so it is whole: 45 + 12 = 57 by 9: 7, more than all others
        SkylineNester w = Due.nester(9, "p6x5 p4x3");
        w.order(NONE);
        bounds("the greatest is that by e", w, 5, 5, 5, 5, 5, 5, 6, 7, 7);
        SkylineNester y = Due.nester(1, "p1x3");
        y.order(NONE);
        D.due("no e by WIDE 1", y.bound(7), 0);
        // U of 1 by k: k + 1 is a multiple of 1: k
        bounds("WIDE 1", y, 3, 3, 3, 3, 3, 3, 3, 0, 3);
        // WIDE 8: e 4: 5 is above 4, so it is whole; 4 stays 4; 3 is nothing
        SkylineNester z = Due.nester(8, "p5x3 p4x2 p3x9");
        Due.order(z, 0, 0, 1);
        // e 4: 24 + 8 = 32 by 8: 4; areas 15 + 8 = 23 by 8: 3
        D.due("e is WIDE / 2", z.bound(7), 4);
        D.due("areas", z.bound(0), 3);
    }

    private static void boundTurned() {
        // t6x2 in 10: areas alike, tallest 2 (6 turned over), 2 w above 10: 2, turned over 0
        SkylineNester x = Due.nester(10, "t6x2");
        x.order(NONE);
        // k 1: 6: 12, once: 10 * 2 = 20; turned over 2: 4: 0. k 2: 18: once 10 * 2; 2: 6: 0.
        // k 3: 24: twice, 40; 2: 8: 0. k 4: 30 is a multiple: 24 * 2 = 48; 2: 10 is: 8 * 6 = 48, by 40: 2
        // e 5: 10 * 2, 2 is nothing
        bounds("each by itself", x, 2, 2, 0, 0, 0, 0, 2, 2, 2);
        // c6x2: 6 * 3 = 18 as it is, 2 * 7 = 14 turned over
        SkylineNester y = Due.nester(10, "c6x2 p6x2");
        Due.order(y, 0, 0);
        D.due("c: the less area", y.bound(0), 2);
        D.due("c: the less t", y.bound(1), 3);
        Due.order(y, 0, 1);
        D.due("p doesn't turn: 2 w above WIDE", y.bound(2), 2);
        // H above WIDE: it can't turn
        SkylineNester z = Due.nester(5, "t3x6 t3x5");
        Due.order(z, 0, 0);
        D.due("it can't turn", z.bound(1), 6);
        Due.order(z, 0, 1);
        D.due("it can", z.bound(1), 3);
        // e 1: 2 x 3 or 3 x 2 are 6 both; e 3 of WIDE 6: 2 is nothing
        SkylineNester w = Due.nester(6, "t2x3");
        w.order(NONE);
        D.due("the less of both by each e", w.bound(7), 1);
    }

    private static void boundFixed() {
        SkylineNester x = Due.nester(10, "t9x2 p3x3 p1x1");
        x.fix(0, 1, 5);
        // as it lies: 18; y + t is 7; 2 w above 10: 2
        bounds("fixed alone", x, 2, 7, 2, 2, 2, 2, 2, 2, 7);
        Due.order(x, 0, 1);
        D.due("areas of both", x.bound(0), 3);
        D.due("fixed is the tallest", x.bound(1), 7);
        x.fix(0, NONE, 0);
        D.due("fixed no more: it doesn't count", x.bound(0), 1);
    }

    private static void best() {
        // WIDE 4: 0 p3x1, 1 p1x3, 2 p3x2
        SkylineNester x = Due.nester(4, "p3x1 p1x3 p3x2");
        x.order(NONE);
        x.swap(0, 2);
        // all orders: 0 and 2 above one another, 1 beside them: 3 is the least
        D.due("best(-1)", x.best(-1), 3);
        int[] want = {0, 1, 2};
        for (int k = 0; k < 3; k++) D.due("the first by numbers: best(" + k + ")", x.best(k), want[k]);
        D.due("best(-2)", x.best(-2), -12);
        D.due("best(3)", x.best(3), -12);
        D.due("the order stays", x.swap(0, 0), 2);
        D.due("nothing lies by it", x.count(2), 0);
        // 0 p2x1 first lets the wide one lie at 1: only [1, 0] is 1 high more
        SkylineNester y = Due.nester(4, "p2x1 p4x1 p2x1");
        Due.order(y, 0, 0, 1, 2);
        y.rule(0, 0);
        // [0, 1, 2]: 1 + 1 + 1 = 3; [0, 2, 1]: 2
        D.due("without waste", y.best(-1), 2);
        int[] other = {0, 2, 1};
        for (int k = 0; k < 3; k++) D.due("without waste: best(" + k + ")", y.best(k), other[k]);
        y.rule(0, 1);
        D.due("with waste", y.best(1), 1);
        D.due("with waste, as high", y.best(-1), 2);
    }

    private static void bestChecks() {
        SkylineNester x = Due.nester(4, "p1x1*6");
        D.due("none: best(-1)", x.best(-1), 0);
        D.due("none: best(0)", x.best(0), -12);
        x.order(NONE);
        D.due("six", x.best(-1), STATE);
        D.due("six: STATE ahead of -12", x.best(9), STATE);
        Due.order(x, 0, 5, 3, 1, 2, 4);
        D.due("five", x.best(-1), 2);
        for (int k = 0; k < 5; k++) D.due("five: best(" + k + ")", x.best(k), k + 1);
        D.due("five: best(5)", x.best(5), -12);
        // s2x1:2 lies only at even y: [0, 1] would bring it to 1, so it must be first
        SkylineNester y = Due.nester(2, "p2x1 s2x1:2");
        y.order(NONE);
        D.due("one order lays all", y.best(0), 1);
        D.due("its top", y.best(-1), 2);
        SkylineNester z = Due.nester(2, "s2x1:2 s2x1:3");
        z.order(NONE);
        D.due("no order lays all", z.best(-1), NONE);
        D.due("no order lays all: best(0)", z.best(0), NONE);
        D.due("-12 ahead of NONE", z.best(2), -12);
        z.fix(0, 0, 0);
        D.due("layouts of none", z.layouts(0), 0);
        D.due("layouts of none, most", z.layouts(1), 0);
        // 4, 3 side by side, 2 over 1 wasted, then 1 at y 4 and 0 at y 8; all other orders leave one out
        SkylineNester v = Due.nester(2, "g2x2:4 s1x4:4 h2x2:2 p1x1:2 s1x2:3");
        v.order(NONE);
        D.due("only the last order: top", v.best(-1), 10);
        for (int k = 0; k < 5; k++) D.due("only the last order: best(" + k + ")", v.best(k), 4 - k);
        D.due("only the last order: layouts", v.layouts(0), 1);
        D.due("only the last order: most", v.layouts(1), 1);
        SkylineNester w = Due.nester(2, "p1x1 p1x1");
        w.fix(0, 0, 8);
        D.due("top of the fixed one", w.best(-1), 9);
        w.order(NONE);
        D.due("top of both", w.best(-1), 9);
    }

    private static void layouts() {
        SkylineNester x = Due.nester(4, "p1x1*6");
        D.due("layouts(-1)", x.layouts(-1), BAD);
        D.due("layouts(2)", x.layouts(2), BAD);
        D.due("none: one", x.layouts(0), 1);
        D.due("none: one order", x.layouts(1), 1);
        x.order(NONE);
        D.due("six", x.layouts(0), STATE);
        D.due("BAD ahead of STATE", x.layouts(2), BAD);
        // 1 wide and 3 wide beside one another: turned over they are the same
        SkylineNester y = Due.nester(4, "p1x2 p3x2");
        y.order(NONE);
        D.due("as the strip is turned over", y.layouts(0), 1);
        D.due("both orders", y.layouts(1), 2);
        // WIDE 5: a column stays free at the right: 1 + 3 and 3 + 1 are two
        SkylineNester z = Due.nester(5, "p1x2 p3x2");
        z.order(NONE);
        D.due("not alike", z.layouts(0), 2);
        D.due("one order each", z.layouts(1), 1);
        // alike parts of unlike kinds: only rectangles count
        SkylineNester w = Due.nester(5, "p1x2 t1x2:3 g1x2");
        w.order(NONE);
        D.due("whichever parts they are of", w.layouts(0), 1);
        D.due("all six", w.layouts(1), 6);
        D.due("nothing lies by it", w.count(2), 0);
    }

    private static void layoutsFixed() {
        // a fixed one at the left: what is alike without it is no more
        SkylineNester x = Due.nester(4, "p1x2 p3x2 p1x1");
        x.fix(2, 0, 20);
        x.order(NONE);
        D.due("fixed ones are turned over, too", x.layouts(0), 2);
        D.due("most", x.layouts(1), 1);
        x.order(3);
        SkylineNester y = Due.nester(3, "p1x2*2 p1x1");
        y.fix(2, 1, 20);
        y.order(NONE);
        D.due("in the middle", y.layouts(0), 1);
        D.due("in the middle, most", y.layouts(1), 2);
        // as many as there may be: five in the order, five fixed
        SkylineNester w = Due.nester(5, "p1x1*9 p1x1");
        for (int k = 0; k < 5; k++) w.fix(2 * k, k, 30 + k % 2);
        w.order(NONE);
        D.due("ten lie", w.layouts(0), 1);
        D.due("ten lie, most", w.layouts(1), 120);
        D.due("ten lie, best", w.best(-1), 32);
        // some orders don't lay all
        SkylineNester z = Due.nester(2, "p2x1 s2x1:2 p2x2");
        z.order(NONE);
        // s first (2 orders) or s behind p2x2 alone (1 order)
        D.due("orders that lay all", z.layouts(0), 3);
        D.due("one each", z.layouts(1), 1);
    }

    /** Fixes parts at places told by x, y and tells the stages. */
    private static int stagesOf(int wide, String items, int... places) {
        SkylineNester x = Due.nester(wide, items);
        for (int k = 0; 2 * k < places.length; k++) D.due("fix for stages", x.fix(k, places[2 * k], places[2 * k + 1]), 1);
        return x.stages();
    }

    private static void stages() {
        D.due("none", Due.nester(5, "p1x1").stages(), 0);
        D.due("one", stagesOf(5, "p1x1", 0, 0), 0);
        D.due("two side by side", stagesOf(5, "p1x1*2", 0, 0, 3, 5), 1);
        D.due("three side by side", stagesOf(5, "p1x3*3", 0, 0, 1, 1, 2, 0), 1);
        D.due("three above one another", stagesOf(5, "p3x1*3", 0, 0, 1, 1, 2, 2), 1);
        D.due("a grid", stagesOf(5, "p1x1*4", 0, 0, 1, 0, 0, 1, 1, 1), 2);
        // one across on top of two: across, then up
        D.due("on top of two", stagesOf(4, "p4x1 p2x1*2", 0, 1, 0, 0, 2, 0), 2);
        // a pinwheel can't be cut
        D.due("a pinwheel", stagesOf(3, "p2x1 p1x2 p2x1 p1x2", 0, 0, 2, 0, 1, 2, 0, 1), NONE);
        D.due("a pinwheel beside one", stagesOf(5, "p2x1 p1x2 p2x1 p1x2 p2x1", 0, 0, 2, 0, 1, 2, 0, 1, 3, 7), NONE);
    }

    private static void stagesChecks() {
        // two columns: in the first two above one another, in the second one below two side by side
        D.due("three stages", stagesOf(6, "p3x2 p3x1 p3x1 p1x2 p2x2", 0, 0, 0, 2, 3, 0, 3, 1, 4, 1), 3);
        D.due("all lines of a way at once", stagesOf(6, "p3x2 p3x1 p1x2 p2x1*2", 0, 0, 0, 2, 3, 0, 4, 0, 4, 1), 2);
        // the same by lines of no width: parts that lie apart
        D.due("gaps", stagesOf(6, "p1x1 p1x1 p1x1", 0, 0, 5, 50, 2, 20), 1);
        // c is a height more: no line across goes between them
        D.due("by t", stagesOf(2, "c1x1 p1x1 p1x1 p1x1", 0, 0, 1, 0, 0, 2, 1, 1), 2);
        D.due("nine of them", stagesOf(9, "p1x9*9", 0, 0, 1, 1, 2, 2, 3, 3, 4, 4, 5, 5, 6, 6, 7, 7, 8, 8), 1);
        // ten parts that go up by turns of way: a stage each
        SkylineNester x = Due.nester(10, "p1x9 p9x1 p1x8 p8x1 p1x7 p7x1 p1x6 p6x1 p1x5 p5x1");
        int[] at = {0, 0, 1, 8, 1, 0, 2, 7, 2, 0, 3, 6, 3, 0, 4, 5, 4, 0, 5, 4};
        for (int k = 0; k < 10; k++) D.due("fix " + k, x.fix(k, at[2 * k], at[2 * k + 1]), 1);
        D.due("nine stages", x.stages(), 9);
        SkylineNester y = Due.nester(4, "p2x1 p2x2 p4x1");
        for (int k = 0; k < 3; k++) y.lay(k);
        D.due("of what is laid", y.stages(), 2);
        y.lay(NONE);
        D.due("nothing lies", y.stages(), 0);
    }

    private static void centre() {
        SkylineNester x = Due.nester(7, "p3x2 p1x1 c2x2 t1x5");
        D.due("centre(-1)", x.centre(-1), BAD);
        D.due("centre(3)", x.centre(3), BAD);
        D.due("nothing lies", x.centre(0), STATE);
        D.due("BAD ahead of STATE", x.centre(3), BAD);
        x.lay(0);
        D.due("x of one", x.centre(0), Float.floatToIntBits(1.5f));
        D.due("y of one", x.centre(1), Float.floatToIntBits(1f));
        D.due("fill of one", x.centre(2), Float.floatToIntBits(6f / 14f));
        x.lay(1);
        x.lay(2);
        D.dueRow("heights", Due.heights(x), 2, 2, 2, 1, 3, 3, 0);
        // areas 6, 1, 6: x (9 + 3.5 + 30) / 13, y (6 + 0.5 + 9) / 13
        D.due("x of three", x.centre(0), Float.floatToIntBits(42.5f / 13f));
        D.due("y of three", x.centre(1), Float.floatToIntBits(15.5f / 13f));
        D.due("fill of three", x.centre(2), Float.floatToIntBits(13f / 21f));
        SkylineNester y = Due.nester(20, "p1x1 p1x1");
        y.fix(0, 0, 0);
        D.due("the least x", y.centre(0), Float.floatToIntBits(0.5f));
        D.due("the least y", y.centre(1), Float.floatToIntBits(0.5f));
        D.due("fill of a fixed one", y.centre(2), Float.floatToIntBits(1f / 20f));
        y.fix(0, NONE, 0);
        y.fix(1, 19, 60);
        D.due("the greatest x", y.centre(0), Float.floatToIntBits(19.5f));
        D.due("the greatest y", y.centre(1), Float.floatToIntBits(60.5f));
        D.due("a small fill", y.centre(2), Float.floatToIntBits(1f / 1220f));
        SkylineNester z = Due.nester(1, "p1x1");
        z.lay(0);
        D.due("a full strip", z.centre(2), Float.floatToIntBits(1f));
        SkylineNester w = Due.nester(4, "p3x2 t3x1");
        w.lay(0);
        w.lay(1);
        D.dueRow("turned over", Due.lies(w, 1), 3, 0, 1, 2);
        D.due("x as it lies", w.centre(0), Float.floatToIntBits((9f + 10.5f) / 9f));
        D.due("y as it lies", w.centre(1), Float.floatToIntBits((6f + 4.5f) / 9f));
    }

    /** The numbers of a seed by long arithmetic. */
    private static int[] numbers(int seed, int n, int many) {
        int[] row = new int[n];
        long z = seed;
        for (int k = 0; k < n; k++) {
            z = (z * 1103515245L + 12345L) & 0xFFFFFFFFL;
            row[k] = (int) ((z >> 9) % many);
        }
        return row;
    }

    private static int topBySwaps(int seed, int n) {
        SkylineNester x = drawnOne();
        int[] row = numbers(seed, 2 * n, 6);
        for (int k = 0; k < n; k++) x.swap(row[2 * k], row[2 * k + 1]);
        x.run();
        return x.count(3);
    }

    private static SkylineNester drawnOne() {
        SkylineNester x = Due.nester(5, "p3x2 p2x5 p4x1 p1x4 p5x1 p2x2");
        x.rule(0, 0);
        x.order(NONE);
        return x;
    }

    private static void drawn() {
        SkylineNester x = drawnOne();
        D.due("drawn(1, -1)", x.drawn(1, -1), BAD);
        D.due("drawn(1, 21)", x.drawn(1, 21), BAD);
        int[] seeds = {0, 1, -1, 7, 12345, Integer.MAX_VALUE, Integer.MIN_VALUE, -987654321};
        for (int seed : seeds) {
            for (int n = 0; n <= 20; n += 4) {
                D.due("drawn(" + seed + ", " + n + ")", x.drawn(seed, n), topBySwaps(seed, n));
            }
        }
        for (int k = 0; k < 6; k++) D.due("the order stays", x.swap(k, k), k);
        D.due("nothing lies by it", x.count(2), 0);
        SkylineNester y = Due.nester(5, "p1x1");
        D.due("an empty order", y.drawn(5, 20), 0);
        y.fix(0, 0, 4);
        D.due("an empty order, a fixed one", y.drawn(5, 20), 5);
    }

    private static void chance() {
        SkylineNester x = drawnOne();
        D.due("m 0", x.chance(1, 0, 5, 0), BAD);
        D.due("m 9", x.chance(1, 9, 5, 0), BAD);
        D.due("top -1", x.chance(1, 4, -1, 0), BAD);
        D.due("part -1", x.chance(1, 4, 5, -1), BAD);
        D.due("part 2", x.chance(1, 4, 5, 2), BAD);
        int[] seeds = {1, 40, Integer.MAX_VALUE - 2};
        for (int seed : seeds) {
            for (int m = 1; m <= 8; m++) {
                for (int top = 6; top < 14; top++) {
                    int low = 0;
                    for (int k = 0; k < m; k++) if (topBySwaps(seed + k, 6) <= top) low++;
                    int by = 1;
                    for (int d = 1; d <= m; d++) if (low % d == 0 && m % d == 0) by = d;
                    D.due("chance above", x.chance(seed, m, top, 0), low / by);
                    D.due("chance below", x.chance(seed, m, top, 1), m / by);
                }
            }
        }
        D.due("none: above", x.chance(1, 6, 0, 0), 0);
        D.due("none: below", x.chance(1, 6, 0, 1), 1);
        D.due("all: above", x.chance(1, 6, 99, 0), 1);
        D.due("all: below", x.chance(1, 6, 99, 1), 1);
        D.due("an empty order", new SkylineNester().chance(1, 3, 0, 0), 1);
    }

    private static void tells() {
        SkylineNester x = Due.nester(4, "p2x1 p4x1 p2x1");
        x.order(NONE);
        x.run();
        D.dueRow("heights", Due.heights(x), 2, 2, 2, 2);
        Due.tell(x, 0, 0, 2, 2, 2, 2);
        D.due("all alike", x.tells(0, 0), NONE);
        D.due("all rules with waste", x.tells(0, 1), 15);
        D.due("all pairs with waste", x.tells(0, 2), 3);
        x.rule(0, 0);
        // now [0, 1, 2] comes to 3 3 2 2; [1, 0, 2] and [0, 2, 1] come to 2; [2, 1, 0] doesn't
        D.due("the skyline is as it was", x.tells(0, 0), NONE);
        D.due("no rule without waste", x.tells(0, 1), 0);
        D.due("two pairs without waste", x.tells(0, 2), 2);
        x.put(0, 3, 1);
        D.due("the last is otherwise", x.tells(0, 0), 3);
        x.put(0, 0, 1);
        D.due("the first is otherwise", x.tells(0, 0), 0);
        Due.tell(x, 1, 1, 2, 2, 2);
        D.due("one too few", x.tells(1, 0), 3);
        D.due("one too few: no pairs", x.tells(1, 2), 0);
        Due.tell(x, 1, 1, 2, 2, 2, 2, 2);
        D.due("one too many", x.tells(1, 0), 4);
        D.due("one too many: no pairs", x.tells(1, 2), 0);
        Due.tell(x, 1, 1);
        D.due("nothing told", x.tells(1, 0), 0);
        D.due("the skyline stays", x.count(3), 2);
        D.due("the rule stays", x.rule(0, 0), 0);
        D.due("the order stays", x.swap(0, 0), 0);
        // only some rules: heights 2 2 0 behind p2x2, then t2x1 lies turned over at 2 by 0, 1 alike
        SkylineNester y = Due.nester(5, "p2x2 p1x1 p2x1 p4x1");
        y.order(NONE);
        int bits = 0;
        y.rule(1, 1);
        y.run();
        Due.tell(y, 2, 1, Due.heights(y));
        int[] told = Due.heights(y);
        for (int rule = 0; rule < 4; rule++) {
            y.rule(rule, 1);
            y.run();
            if (java.util.Arrays.equals(told, Due.heights(y))) bits |= 1 << rule;
        }
        D.due("rules", y.tells(2, 1), bits);
    }

    private static void tellsChecks() {
        SkylineNester x = Due.nester(20, "p1x1");
        D.due("tells(-1, 0)", x.tells(-1, 0), BAD);
        D.due("tells(4, 0)", x.tells(4, 0), BAD);
        D.due("tells(0, -1)", x.tells(0, -1), BAD);
        D.due("tells(0, 3): BAD ahead of -11", x.tells(0, 3), BAD);
        D.due("tells(0, 0)", x.tells(0, 0), -11);
        x.sheet(0, 1, 21);
        D.due("more than 20", x.tells(0, 0), BAD);
        x.sheet(0, 1, 20);
        D.due("20", x.tells(0, 0), NONE);
        D.due("an empty order: all rules", x.tells(0, 1), 15);
        D.due("an empty order: no pairs", x.tells(0, 2), 0);
        x.sheet(0, NONE, 0);
        D.due("missing again", x.tells(0, 1), -11);
        // shorts are told as shorts
        SkylineNester y = Due.nester(1, "p1x3");
        y.lay(0);
        Due.tell(y, 3, 0, 65536 + 3);
        D.due("a short", y.tells(3, 0), NONE);
        Due.tell(y, 3, 1, 65536 + 3);
        D.due("an int", y.tells(3, 0), 0);
    }
}
