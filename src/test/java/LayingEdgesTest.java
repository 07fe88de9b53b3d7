/** The edges that promises 9 to 15 name: swap, rule, place, lay, run, sky, waste; and how PARTS are LAID. */
public final class LayingEdgesTest {
    private static final Edge E = new Edge("LayingEdgesTest");
    private static final int NONE = Due.NONE, BAD = Due.BAD, STATE = Due.STATE;
    private static final int MIN = Integer.MIN_VALUE, MAX = Integer.MAX_VALUE;

    public static void main(String[] args) throws Exception {
        swap();
        rule();
        place();
        lay();
        run();
        turnedOver();
        grained();
        stepped();
        heavy();
        clear();
        sides();
        heightsBetweenFixed();
        ruleOfWasted();
        ruleOfUpperEdge();
        touchingColumns();
        touchingSides();
        roomInWaste();
        leastAreaLeft();
        kindsInWaste();
        wasteSplit();
        wasteOfThree();
        wasteBySegments();
        wasteAtFixed();
        sky();
        waste();
        E.end(9, 15);
    }

    private static Scene scene(int wide, String items) {
        return new Scene(E, wide, items);
    }

    // ---- promise 9

    private static void swap() {
        E.still(9, "-12: i -1", Edge::rich, x -> x.swap(-1, 0), -12);
        E.still(9, "-12: j -1", Edge::rich, x -> x.swap(0, -1), -12);
        E.still(9, "-12: i is one behind the last", Edge::rich, x -> x.swap(4, 0), -12);
        E.still(9, "-12: j is one behind the last", Edge::rich, x -> x.swap(0, 4), -12);
        E.still(9, "-12: both are", Edge::rich, x -> x.swap(4, 4), -12);
        E.still(9, "-12: i MIN", Edge::rich, x -> x.swap(MIN, 0), -12);
        E.still(9, "-12: j MIN", Edge::rich, x -> x.swap(0, MIN), -12);
        E.still(9, "-12: i MAX", Edge::rich, x -> x.swap(MAX, 0), -12);
        E.still(9, "-12: j MAX", Edge::rich, x -> x.swap(0, MAX), -12);
        E.is(9, "-12: an empty ORDER", new SkylineNester().swap(0, 0), -12);
        for (int i = 0; i < 4; i++) {
            int place = i;
            int[] part = {0, 1, 3, 5};
            E.still(9, "one with itself", Edge::rich, x -> x.swap(place, place), part[i]);
        }
        SkylineNester x = Edge.rich();
        E.is(9, "the first and the last: the PART at i then", x.swap(0, 3), 5);
        E.is(9, "the PART at j then", x.swap(3, 3), 0);
        E.is(9, "those between stay", x.swap(1, 1), 1);
        E.is(9, "what lies stays", x.told(0, 4), 0);
        E.is(9, "exchanged again", x.swap(3, 0), 5);
        SkylineNester one = Due.nester(3, "p1x1");
        one.order(NONE);
        E.is(9, "an ORDER of one", one.swap(0, 0), 0);
        E.is(9, "-12: an ORDER of one", one.swap(0, 1), -12);
        SkylineNester ten = Due.nester(3, "p1x1*9p1x1");
        ten.order(NONE);
        E.is(9, "an ORDER of 10", ten.swap(9, 0), 0);
        E.is(9, "-12: an ORDER of 10", ten.swap(9, 10), -12);
    }

    // ---- promise 10

    private static void rule() {
        E.still(10, "BAD: RULE -1", Edge::rich, x -> x.rule(-1, 0), BAD);
        E.still(10, "BAD: RULE 4", Edge::rich, x -> x.rule(4, 0), BAD);
        E.still(10, "BAD: RULE MIN", Edge::rich, x -> x.rule(MIN, 0), BAD);
        E.still(10, "BAD: RULE MAX", Edge::rich, x -> x.rule(MAX, 0), BAD);
        E.still(10, "BAD: WASTE -1", Edge::rich, x -> x.rule(0, -1), BAD);
        E.still(10, "BAD: WASTE 2", Edge::rich, x -> x.rule(0, 2), BAD);
        E.still(10, "BAD: WASTE MIN", Edge::rich, x -> x.rule(0, MIN), BAD);
        E.still(10, "BAD: WASTE MAX", Edge::rich, x -> x.rule(0, MAX), BAD);
        E.still(10, "what it is already", Edge::rich, x -> x.rule(2, 0), 4);
        for (int rule = 0; rule < 4; rule++) {
            for (int waste = 0; waste < 2; waste++) {
                SkylineNester x = new SkylineNester();
                E.is(10, "what THE RULE was at first", x.rule(rule, waste), 1);
                E.is(10, "2 times what THE RULE was, and that", x.rule(0, 0), 2 * rule + waste);
            }
        }
    }

    // ---- promises 11 to 13

    private static void place() {
        for (int what = 0; what < 4; what++) {
            int asked = what;
            E.still(11, "BAD: part NONE", Edge::rich, x -> x.place(NONE, asked), BAD);
            E.still(11, "BAD: one behind the last part", Edge::rich, x -> x.place(8, asked), BAD);
            E.still(11, "STATE: it lies on the skyline", Edge::rich, x -> x.place(0, asked), STATE);
            E.still(11, "STATE: it lies in WASTE", Edge::rich, x -> x.place(7, asked), STATE);
            E.still(11, "STATE: it is FIXED", Edge::rich, x -> x.place(6, asked), STATE);
            E.is(11, "BAD: no PARTS", new SkylineNester().place(0, what), BAD);
        }
        E.still(11, "BAD: part MIN", Edge::rich, x -> x.place(MIN, 0), BAD);
        E.still(11, "BAD: part MAX", Edge::rich, x -> x.place(MAX, 0), BAD);
        E.still(11, "BAD: what -1", Edge::rich, x -> x.place(4, -1), BAD);
        E.still(11, "BAD: what 4", Edge::rich, x -> x.place(4, 4), BAD);
        E.still(11, "BAD: what MIN", Edge::rich, x -> x.place(4, MIN), BAD);
        E.still(11, "BAD: what MAX", Edge::rich, x -> x.place(4, MAX), BAD);
        E.still(11, "BAD ahead of STATE: what 4 of one that lies", Edge::rich, x -> x.place(0, 4), BAD);
        E.still(11, "BAD ahead of STATE: what -1 of a FIXED one", Edge::rich, x -> x.place(6, -1), BAD);
        int[] want = {0, 4, 0, 0};
        for (int what = 0; what < 4; what++) {
            int asked = what;
            E.still(11, "it is not LAID by that, what " + what, Edge::rich, x -> x.place(4, asked), want[what]);
        }
    }

    private static void lay() {
        E.still(12, "BAD: -2", Edge::rich, x -> x.lay(-2), BAD);
        E.still(12, "BAD: one behind the last part", Edge::rich, x -> x.lay(8), BAD);
        E.still(12, "BAD: MIN", Edge::rich, x -> x.lay(MIN), BAD);
        E.still(12, "BAD: MAX", Edge::rich, x -> x.lay(MAX), BAD);
        E.still(12, "STATE: it lies on the skyline", Edge::rich, x -> x.lay(0), STATE);
        E.still(12, "STATE: it lies in WASTE", Edge::rich, x -> x.lay(7), STATE);
        E.still(12, "STATE: it is FIXED", Edge::rich, x -> x.lay(6), STATE);
        E.is(12, "BAD: no PARTS", new SkylineNester().lay(0), BAD);
        E.is(12, "NONE: no PARTS", new SkylineNester().lay(NONE), 0);
        E.still(12, "NONE: nothing lies that isn't FIXED", Edge::cleared, x -> x.lay(NONE), 0);
        SkylineNester x = Edge.rich();
        E.is(12, "NONE", x.lay(NONE), 0);
        E.is(12, "NONE: only the FIXED one lies", x.count(2), 1);
        E.row(12, "NONE: FIXED stays", Due.lies(x, 6), 5, 9, 0, 1);
        E.row(12, "NONE: THE SKYLINE", Due.heights(x), 0, 0, 0, 0, 0, 0);
        E.is(12, "NONE: no WASTE", x.waste(-1, 0), 0);
        E.is(12, "NONE: THE ORDER stays", x.count(1), 4);
        E.row(12, "NONE: one that lay in WASTE", Due.lies(x, 7), NONE, NONE, NONE, 0);
        E.is(12, "NONE: THE RULE stays", x.rule(0, 0), 4);
        SkylineNester y = Edge.rich();
        E.is(12, "its y", y.lay(4), 4);
        E.row(12, "it lies", Due.lies(y, 4), 0, 4, 0, 2);
    }

    private static void run() {
        SkylineNester none = new SkylineNester();
        E.is(13, "no PARTS", none.run(), 0);
        SkylineNester x = Edge.rich();
        x.order(3);
        E.is(13, "an empty ORDER", x.run(), 0);
        E.is(13, "an empty ORDER: all that isn't FIXED goes", x.count(2), 1);
        E.row(13, "an empty ORDER: FIXED stays", Due.lies(x, 6), 5, 9, 0, 1);
        E.row(13, "an empty ORDER: THE SKYLINE", Due.heights(x), 0, 0, 0, 0, 0, 0);
        E.is(13, "an empty ORDER: no WASTE", x.waste(-1, 0), 0);
        SkylineNester y = Edge.rich();
        E.is(13, "those of THE ORDER", y.run(), 4);
        E.row(13, "what isn't in THE ORDER goes", Due.lies(y, 2), NONE, NONE, NONE, 0);
        E.row(13, "what isn't in THE ORDER goes from WASTE", Due.lies(y, 7), NONE, NONE, NONE, 0);
        E.same(13, "a RUN again comes to the same", () -> ran(1), () -> ran(2));
        // only s1x1:2 can't be: y is 1
        SkylineNester z = Due.nester(2, "p2x1 s1x1:2 p2x1");
        z.order(NONE);
        E.is(13, "those that can't be are left out", z.run(), 2);
        E.row(13, "it is left out", Due.lies(z, 1), NONE, NONE, NONE, 0);
        E.row(13, "the one behind it is LAID", Due.lies(z, 2), 0, 1, 0, 2);
        z.swap(0, 1);
        E.is(13, "all can be", z.run(), 3);
        SkylineNester w = Due.nester(1, "h1x1*2 s1x1:9");
        Due.order(w, 0, 2);
        E.is(13, "an ORDER of one", w.run(), 1);
        SkylineNester v = Due.nester(2, "p1x1 h2x1 h2x1");
        v.order(NONE);
        E.is(13, "all but the first are left out", v.run(), 1);
        SkylineNester ten = Due.nester(20, "p2x1*9p2x1");
        ten.order(NONE);
        E.is(13, "10", ten.run(), 10);
        E.is(13, "10 side by side", ten.count(3), 1);
    }

    private static SkylineNester ran(int times) {
        SkylineNester x = Edge.rich();
        for (int k = 0; k < times; k++) x.run();
        return x;
    }

    // ---- how KINDS may lie

    private static void turnedOver() {
        scene(4, "t1x4").rule(2).at("H is WIDE: it may be TURNED over", 0, 0, 1, 0);
        scene(4, "t1x5").rule(2).at("H is above WIDE: it may not", 0, 0, 0, 0);
        scene(4, "c1x4").rule(2).at("under TURNING, H is WIDE", 0, 0, 1, 0);
        scene(4, "c1x5").rule(2).at("under TURNING, H is above WIDE", 0, 0, 0, 0);
        for (String letter : new String[] {"p", "g", "s", "h"}) {
            scene(4, letter + "1x4").rule(2).at("its KIND may not be TURNED over", 0, 0, 0, 0);
        }
        scene(1, "t1x1").rule(2).at("alike both ways: as it is", 0, 0, 0, 0);
        scene(1, "t1x2").rule(2).at("H is above a WIDE of 1", 0, 0, 0, 0);
        scene(20, "t1x9").rule(2).at("the greatest H", 0, 0, 1, 0);
        scene(9, "t9x1 t1x9").rule(2).at("W is above 1, H is WIDE", 0, 1, 1, 0);
        SkylineNester x = scene(4, "t1x4").rule(2).all();
        E.row(13, "w is H, h is W", Due.heights(x), 1, 1, 1, 1);
        SkylineNester y = scene(4, "c1x4").rule(2).all();
        E.row(13, "w is H, t is W and 1", Due.heights(y), 2, 2, 2, 2);
        SkylineNester z = scene(20, "p2x9 t20x1 t19x1").rule(0).made();
        E.is(11, "W 20 turned over is 20 high", z.place(1, 0), STATE);
        E.row(12, "W 20 turned over lies beside", Due.lies(z, 1), 2, 0, 1, 2);
        E.is(12, "its height", z.count(3), 20);
    }

    private static void grained() {
        scene(8, "p1x2 g2x1").at("FIGURE 1: any x", 1, 0);
        scene(8, "p1x2 g2x1:3").at("only x that are multiples of FIGURE", 3, 0);
        scene(8, "p1x2 g2x1:2").at("only x that are multiples of FIGURE", 2, 0);
        scene(8, "g2x1:9").at("0 is a multiple", 0, 0);
        scene(8, "p6x2 g2x1:6").at("the last x that ends at the side", 6, 0);
        scene(8, "p7x2 g2x1:7").at("a multiple that ends beyond the side", 0, 2);
        scene(8, "p1x2 g2x1:9").at("FIGURE is above WIDE: only 0", 0, 2);
        scene(8, "g8x1:5").at("all wide", 0, 0);
        scene(10, "p9x2 g1x1:9").at("the greatest FIGURE", 9, 0);
        scene(10, "p9x2 g1x1:8").at("8 is taken", 0, 2);
    }

    private static void stepped() {
        scene(4, "p4x1 s1x1:2").nowhere("only y that are multiples of FIGURE");
        scene(4, "p4x2 s1x1:2").at("y is FIGURE", 0, 2);
        scene(4, "p4x4 s1x1:2").at("y is a multiple of FIGURE", 0, 4);
        scene(4, "s1x1:9").at("0 is a multiple", 0, 0);
        scene(4, "p4x8 s1x1:9").nowhere("one below FIGURE");
        scene(4, "p4x9 s1x1:9").at("the greatest FIGURE", 0, 9);
        scene(4, "p1x1 s1x1:3").at("x too", 3, 0);
        scene(4, "p1x1 s2x1:3").nowhere("x too: 3 ends beyond the side, at 0 y is 1");
        scene(4, "p4x3 s1x1").at("FIGURE 1: any y", 0, 3);
        scene(1, "p1x1 s1x1:2").fix(0, 0, 0).nowhere("lifted by a FIXED one to 1");
        scene(1, "p1x1 s1x1").fix(0, 0, 0).at("lifted by a FIXED one, FIGURE 1", 0, 1);
        scene(1, "p1x1 s1x1:2").fix(0, 0, 1).at("just below a FIXED one", 0, 0);
    }

    private static void heavy() {
        scene(3, "p1x3 h3x1:6").nowhere("what would be WASTED is FIGURE");
        scene(3, "p1x3 h3x1:7").at("what would be WASTED is less than FIGURE by 1", 0, 3);
        scene(3, "p1x3 h3x1:5").nowhere("what would be WASTED is above FIGURE");
        scene(2, "p1x1 h2x1").nowhere("FIGURE 1: 1 would be WASTED");
        scene(2, "p1x1 h1x1").at("FIGURE 1: nothing would be WASTED", 1, 0);
        scene(3, "p1x3 h2x1").at("nothing is WASTED beside it", 1, 0);
        scene(1, "p1x1 h1x1").fix(0, 0, 0).nowhere("over a FIXED one 1 is WASTED");
        scene(1, "p1x1 h1x1:2").fix(0, 0, 0).at("over a FIXED one 1 is less than 2", 0, 1);
        scene(10, "p9x1 h9x1:8 h1x1").at("none is WASTED beside or above", 9, 0);
        scene(9, "p1x1 h9x1:8").nowhere("8 are WASTED, FIGURE is 8");
        scene(9, "p1x1 h9x1:9").at("8 are WASTED, FIGURE is 9", 0, 1);
    }

    private static void clear() {
        scene(1, "p1x1 c1x2").fix(0, 0, 3).at("t is h and 1: just below a FIXED one", 0, 0);
        scene(1, "p1x1 c1x3").fix(0, 0, 3).at("t is h and 1: one too high", 0, 4);
        scene(1, "p1x1 p1x3").fix(0, 0, 3).at("others have h alone", 0, 0);
        E.row(13, "t is h and 1 on THE SKYLINE", Due.heights(scene(2, "c1x9").all()), 10, 0);
        E.row(13, "h alone on THE SKYLINE", Due.heights(scene(2, "p1x9").all()), 9, 0);
        E.is(30, "t is h and 1 of a FIXED one", scene(1, "c1x9 p1x1").fix(0, 0, 60).made().count(3), 70);
    }

    private static void sides() {
        for (int w = 1; w <= 20; w++) {
            SkylineNester x = Due.nester(20, "p" + w + "x1");
            E.is(11, "it lies at the left side", x.place(0, 0), 0);
            if (w == 20) continue;
            SkylineNester y = Due.nester(20, "p" + (20 - w) + "x2 p" + w + "x1");
            y.lay(0);
            E.is(11, "it ends at the right side", y.place(1, 0), 20 - w);
            E.is(11, "it ends at the right side, y", y.place(1, 1), 0);
            SkylineNester z = Due.nester(20, "p" + (20 - w) + "x2 p" + (w + 1) + "x1");
            z.lay(0);
            E.is(11, "it would end beyond it", z.place(1, 1), 2);
        }
        scene(1, "p1x1").at("a strip of one column", 0, 0);
        scene(1, "p1x9 p1x9").at("no end upwards", 0, 9);
    }

    private static void heightsBetweenFixed() {
        scene(1, "p1x1 p1x2").fix(0, 0, 2).at("just below a FIXED one", 0, 0);
        scene(1, "p1x1 p1x3").fix(0, 0, 2).at("one too high: just above it", 0, 3);
        scene(1, "p1x1 p1x1 p1x2").fix(0, 0, 1).fix(1, 0, 4).at("just between two FIXED ones", 0, 2);
        scene(1, "p1x1 p1x1 p1x3").fix(0, 0, 1).fix(1, 0, 4).at("one too high for it: above both", 0, 5);
        scene(1, "p1x1 p1x1 p1x1 p1x1 p1x2").fix(0, 0, 7).fix(1, 0, 1).fix(2, 0, 5).fix(3, 0, 3)
            .at("above four, told in any order: 8", 0, 8);
        Scene nine = scene(1, "p1x1*9 p1x2");
        for (int k = 0; k < 9; k++) nine.fix(k, 0, 17 - 2 * k);
        nine.at("above nine, as none between them is high enough", 0, 18);
        scene(2, "p1x9 p1x1").fix(0, 1, 0).at("a FIXED one in the next column", 0, 0);
        scene(2, "p1x1 p2x1").fix(0, 1, 0).at("a FIXED one in its last column", 0, 1);
        scene(2, "p1x1 p2x1").fix(0, 0, 0).at("a FIXED one in its first column", 0, 1);
        scene(3, "p1x1 p3x1").fix(0, 1, 0).at("a FIXED one in a column between", 0, 1);
        scene(3, "p3x1 p1x1 p3x1").fix(0, 0, 5).at("THE SKYLINE of one of its columns", 0, 1);
        scene(2, "p2x1 p2x1 p2x1").fix(0, 0, 1).at("under FIXED, above FIXED", 0, 2);
        scene(1, "p1x9 p1x9 p1x9").fix(0, 0, 60).fix(1, 0, 9).at("far above", 0, 0);
        // a FIXED one below THE SKYLINE does no more harm
        scene(1, "p1x1 p1x1 p1x1 p1x1").fix(0, 0, 1).at("above what lies above it", 0, 3);
    }

    // ---- THE RULE

    private static void ruleOfWasted() {
        // heights 4 4 2 0: at 2 y is 2 and 2 are WASTED, at 0 y is 4 and nothing is
        scene(4, "p2x4 p1x2 p2x1").at("0: the least y", 2, 2);
        scene(4, "p2x4 p1x2 p2x1").rule(1).at("1: the least WASTED", 0, 4);
        scene(4, "p2x4 p1x2 p2x1").rule(2).at("2: the least y and t", 2, 2);
        scene(5, "p2x4 p1x1").rule(1).at("1: of these the least y, of these the least x", 2, 0);
        scene(3, "p1x1 p3x1").rule(1).at("1: it is the only one", 0, 1);
        // heights 2 2 0 0: lying at 1 wastes 2, at 0 and 2 nothing
        scene(4, "p2x2 p2x1").rule(1).at("1: of these the least y", 2, 0);
        scene(4, "p2x2 t4x1").rule(1).at("1: TURNED over nothing is WASTED", 2, 0, 1, 0);
        scene(4, "p4x2 p2x1").at("0: of these the least x", 0, 2);
        scene(3, "p1x1 t1x1").at("0: of these the least x, as it is", 1, 0);
    }

    private static void ruleOfUpperEdge() {
        scene(4, "p3x2 t4x1").at("0: y alone", 3, 0, 1, 0);
        scene(4, "p3x2 t4x1").rule(2).at("2: y and t: 3, not 4", 0, 2, 0, 0);
        scene(4, "p3x2 t3x1").rule(2).at("2: y and t alike: the least y", 3, 0, 1, 0);
        scene(6, "t2x2 t3x3").rule(2).at("2: alike both ways: as it is", 2, 0, 0, 0);
        scene(5, "p1x1 t3x1").rule(2).at("2: t is less as it is", 1, 0, 0, 0);
        scene(5, "p1x1 t1x3").rule(2).at("2: t is less TURNED over", 1, 0, 1, 0);
        scene(4, "p1x4 c1x2").rule(2).at("2: t of a CLEAR one: 2 against 3", 1, 0, 1, 0);
        // x decides ahead of as it is: only TURNED over it fits at 3
        scene(5, "p3x4 t3x2").at("0: of these the least x, TURNED over there alone", 3, 0, 1, 0);
    }

    private static void touchingColumns() {
        // heights 1 1 1 1 0: 2 x 1 at 0: 2 columns, 1 of the side; at 3: 1 column, 1 of the side: y is 1 in both
        scene(5, "p4x1 p2x1").rule(3).at("3: only columns with THE SKYLINE just at y", 0, 1);
        // heights 1 0 0 0 0 0: 3 x 1 at 1: 3 columns, 1 of the skyline; at 3: 3 columns, 1 of the side
        scene(6, "p1x1 p3x1").rule(3).at("3: alike: the least x", 1, 0);
        // heights 2 0 0 0 0 0: 3 x 2: 3 columns, 2 left, or 3 columns, 2 of the side
        scene(6, "p1x2 p3x2").rule(3).at("3: alike: the least x", 1, 0);
        scene(5, "p1x1 p5x1").rule(3).at("3: the only one", 0, 1);
        // FIXED ones under it are not THE SKYLINE: at 0 y is 1: no column, 1 of the side; at 2: 2 columns, 1 of the side
        scene(4, "p2x1 p2x1").fix(0, 0, 0).rule(3).at("3: on a FIXED one is not on THE SKYLINE", 2, 0);
        // heights 2 1 0 1 1: 2 x 1 touches 1 and 1 at 0 and at 1, 1 at 2, 2 and 1 of the side at 3
        scene(5, "g1x2:9 g2x1:3 p1x1 p2x1").rule(3).at("3: as many sides, but more columns", 3, 1);
        // heights 3 0 0 0: 1 x 3 at 0 (y 3), at 1 and at 3 touches 1 and 3
        scene(4, "p1x3 p1x3").rule(3).at("3: alike: the least y, then the least x", 1, 0);
    }

    private static void touchingSides() {
        // empty: 2 x 1 touches 2 columns everywhere, a side at 0 and 3
        scene(5, "p2x1").rule(3).at("3: the strip's side, left", 0, 0);
        // heights 2 0 0 0 0: 1 x 3 at 1: 1 and 2; at 4: 1 and 3 of the side
        scene(5, "p1x2 p1x3").rule(3).at("3: the side counts all t, THE SKYLINE what is below it", 4, 0);
        // heights 3 0 0 0 0: 1 x 3 at 1: 1 and 3; at 4: 1 and 3
        scene(5, "p1x3 p1x3").rule(3).at("3: THE SKYLINE counts all t", 1, 0);
        // heights 1 1 1 1 9 by the RULE; 1 x 1 at 0 and at 3 touch 2
        scene(5, "p4x1 p1x9 p1x1").rule(3).at("3: no more than its t heights", 0, 1);
        // heights 1 1 1 0: 1 x 2 at 3: 1, 1 left, 2 of the side: 4; at 0: 1 and 2
        scene(4, "p3x1 p1x2").rule(3).at("3: both sides", 3, 0);
        // heights 2 2 2 0: t3x1 at 3 TURNED over: 1, 2 left, 3 of the side: 6; as it is at 0: 3, 1: 4
        scene(4, "p3x2 t3x1").rule(3).at("3: TURNED over touches more", 3, 0, 1, 0);
        // heights 1 1 1 1 0: 1 x 1 at 4: 1, 1 left, 1 of the side; all else touches 2 at most
        scene(5, "p2x1 p2x1 p1x1").rule(3).at("3: THE SKYLINE left, the side right", 4, 0);
        scene(2, "p1x5 p1x1 p1x1").fix(0, 0, 0).rule(3).at("3: a FIXED one in the next column doesn't count", 1, 1);
        // a FIXED one at 1 beside: 2 x 2 at 2 and at 3 touch 2 columns; the side makes 3 better
        scene(5, "p1x5 p1x1 p2x2").fix(0, 1, 0).rule(3).at("3: FIXED ones don't count, the side does", 3, 0);
        // all wide: both sides
        scene(3, "p3x1 t3x3").rule(3).at("3: alike both ways: as it is", 0, 1, 0, 0);
    }

    // ---- WASTE

    /** Behind these 2 0 1 3 (x, y, wide, high) is WASTE, heights are 4 4 4 0. */
    private static final String NARROW = "p2x3 p3x1 ";

    private static void roomInWaste() {
        E.row(15, "one column of 3", Due.waste(scene(4, NARROW + "p1x1").made()), 2, 0, 1, 3);
        scene(4, NARROW + "p1x3").at("room for just w and t", 2, 0, 0, 1);
        scene(4, NARROW + "p1x4").at("no room: one too high", 3, 0, 0, 0);
        scene(4, NARROW + "p2x1").at("no room: one too wide", 0, 4, 0, 0);
        scene(4, NARROW + "c1x2").at("room for just h and 1", 2, 0, 0, 1);
        scene(4, NARROW + "c1x3").at("no room for h and 1", 3, 0, 0, 0);
        scene(4, NARROW + "t3x1").at("room TURNED over", 2, 0, 1, 1);
        scene(4, NARROW + "t4x1").at("no room TURNED over either", 3, 0, 1, 0);
        scene(4, NARROW + "c2x1").at("room TURNED over for W and 1", 2, 0, 1, 1);
        scene(4, NARROW + "p1x3").withoutWaste().at("WASTE is not used", 3, 0, 0, 0);
        scene(3, "p1x9 p3x1 p2x9").at("WASTE of two columns and 9, all of it", 1, 0, 0, 1);
        scene(4, "p2x3 p4x1 p2x3").at("room for just both", 2, 0, 0, 1);
        scene(4, "p2x3 p4x1 p3x1").at("no room: 3 wide", 0, 4, 0, 0);
        // THE RULE doesn't matter in WASTE
        for (int rule = 0; rule < 4; rule++) {
            scene(4, "p2x3 p4x1 p1x1").rule(rule).at("by any RULE first into WASTE", 2, 0, 0, 1);
        }
    }

    private static void leastAreaLeft() {
        scene(6, "p1x3 g1x3:4 p6x1 p1x1").at("the least area left: 2, not 8", 5, 0, 0, 1);
        scene(6, "p1x3 g1x3:4 p6x1 p2x1").at("room in one alone", 1, 0, 0, 1);
        // waste 1 0 1 5 and 2 2 2 3: 5 - 1 and 6 - 1 are left
        scene(5, "g1x5:9 g1x5:4 g2x2:2 p5x1 p1x1").at("the area is w times t", 1, 0, 0, 1);
        scene(6, "p1x3 g1x3:3 p6x1 p1x1").at("as much left: the first by x", 1, 0, 0, 1);
        // waste 3 0 1 2 and 0 1 2 1
        scene(4, "p2x1 p1x2 p4x1 p1x1").at("as much left: the first by y", 3, 0, 0, 1);
        scene(4, "p2x1 p1x2 p4x1 p2x1").at("room in the second alone", 0, 1, 0, 1);
        scene(4, "p2x1 p1x2 p4x1 t2x1").at("as much left, one TURNED over: the first", 3, 0, 1, 1);
        scene(4, "p2x1 p1x2 p4x1 t1x2").at("as much left, one TURNED over: the first, as it is", 3, 0, 0, 1);
        scene(4, "p2x2 p4x1 t1x2").at("as it is of these", 2, 0, 0, 1);
        scene(4, "p2x2 p4x1 c1x1").at("a CLEAR one: as it is of these", 2, 0, 0, 1);
        // 2 x 4 of WASTE: c1x2 takes 1 x 3, TURNED over 2 x 2: less is left
        scene(4, "p2x4 p4x1 c1x2").at("a CLEAR one: less left TURNED over", 2, 0, 1, 1);
        scene(4, "p2x4 p4x1 c2x1").at("a CLEAR one: less left as it is", 2, 0, 0, 1);
    }

    private static void kindsInWaste() {
        scene(4, NARROW + "g1x1:2").at("x is a multiple of FIGURE", 2, 0, 0, 1);
        scene(4, NARROW + "g1x1:3").at("x is none", 3, 0, 0, 0);
        scene(4, NARROW + "h1x1").at("WASTED is 0 there", 2, 0, 0, 1);
        scene(4, NARROW + "s1x1:2").at("x and y are multiples", 2, 0, 0, 1);
        // waste 3 0 1 2 and 0 1 2 1
        scene(4, "p2x1 p1x2 p4x1 s1x1:3").at("only the first may be", 3, 0, 0, 1);
        scene(4, "p2x1 p1x2 p4x1 s1x1:2").nowhere("x 3 is none, y 1 is none, y 3 is none");
        scene(4, "p2x1 p1x2 p4x1 g1x1:2").at("only the second may be", 0, 1, 0, 1);
        scene(4, "p2x1 p1x2 p4x1 s1x1").at("FIGURE 1 may be in both", 3, 0, 0, 1);
        // at its least x and y alone: WASTE 1 0 3 3 has room at 2, but isn't asked there
        scene(4, "p1x3 p4x1 g1x1:2").at("only at its least x", 0, 4, 0, 0);
    }

    private static void wasteSplit() {
        // waste 1 0 5 5
        String wide = "p1x5 p6x1 ";
        E.row(15, "5 x 5", Due.waste(scene(6, wide + "p1x1").made()), 1, 0, 5, 5);
        E.row(15, "right of the whole height, above of its width",
            Due.waste(scene(6, wide + "p2x3").all()), 3, 0, 3, 5, 1, 3, 2, 2);
        E.row(15, "all its width: only above", Due.waste(scene(6, wide + "p5x2").all()), 1, 2, 5, 3);
        E.row(15, "all its height: only right", Due.waste(scene(6, wide + "p2x5").all()), 3, 0, 3, 5);
        E.row(15, "all of it: none", Due.waste(scene(6, wide + "p5x5").all()));
        E.row(15, "one less than all its width", Due.waste(scene(6, wide + "p4x5").all()), 5, 0, 1, 5);
        E.row(15, "one less than all its height", Due.waste(scene(6, wide + "p5x4").all()), 1, 4, 5, 1);
        E.row(15, "a CLEAR one's height", Due.waste(scene(6, wide + "c5x4").all()));
        E.row(15, "TURNED over", Due.waste(scene(4, "p2x3 p4x1 t3x1").all()), 3, 0, 1, 3);
        E.row(12, "THE SKYLINE stays by WASTE", Due.heights(scene(6, wide + "p5x5").all()), 6, 6, 6, 6, 6, 6);
        // what is left is laid into again
        scene(6, wide + "p2x3 p2x2").at("into what was left above", 1, 3, 0, 1);
        scene(6, wide + "p2x3 p3x5").at("into what was left right", 3, 0, 0, 1);
        scene(6, wide + "p2x3 p3x3").at("the least x and y of what was left", 3, 0, 0, 1);
    }

    /** Behind these WASTE is 1 0 1 3, 3 1 2 2 and 6 2 3 1 (x, y, wide, high). */
    private static final String THREE = "p1x3 g1x3:2 g1x3:5 g2x1:3 g3x2:6 p9x1 ";

    private static void wasteOfThree() {
        E.row(15, "ordered by y", Due.waste(scene(9, THREE + "p1x1").made()), 1, 0, 1, 3, 3, 1, 2, 2, 6, 2, 3, 1);
        E.row(15, "the first goes", Due.waste(scene(9, THREE + "p1x3").all()), 3, 1, 2, 2, 6, 2, 3, 1);
        E.row(15, "the second goes", Due.waste(scene(9, THREE + "p2x2").all()), 1, 0, 1, 3, 6, 2, 3, 1);
        E.row(15, "the last goes", Due.waste(scene(9, THREE + "p3x1").all()), 1, 0, 1, 3, 3, 1, 2, 2);
        E.row(15, "of the last something is left",
            Due.waste(scene(9, THREE + "p2x1").all()), 1, 0, 1, 3, 3, 1, 2, 2, 8, 2, 1, 1);
        E.row(15, "of the first something is left",
            Due.waste(scene(9, THREE + "p1x1").all()), 1, 1, 1, 2, 3, 1, 2, 2, 6, 2, 3, 1);
        E.row(15, "one of as much y comes by its x",
            Due.waste(scene(9, THREE + "t1x2").all()), 3, 1, 2, 2, 1, 2, 1, 1, 6, 2, 3, 1);
    }

    private static void wasteBySegments() {
        E.row(15, "nothing between THE SKYLINE and y", Due.waste(scene(4, "p2x1 p2x1 p4x1").all()));
        E.row(15, "one rectangle", Due.waste(scene(4, "p2x2 p4x1").all()), 2, 0, 2, 2);
        E.row(15, "of a SEGMENT what is in its columns", Due.waste(scene(4, "p2x2 p3x1").all()), 2, 0, 1, 2);
        // heights 2 0 0 1 0
        SkylineNester x = Due.nester(5, "g1x2 g1x1:3 p5x1");
        x.lay(0);
        x.rule(1, 1);
        x.lay(1);
        x.lay(2);
        E.row(15, "SEGMENT by SEGMENT, ordered by y, then x", Due.waste(x), 1, 0, 2, 2, 4, 0, 1, 2, 3, 1, 1, 1);
        // heights 3 0 0 0 3: 4 x 1 at 0
        SkylineNester y = Due.nester(5, "g1x3:4*2 p4x1");
        for (int part = 0; part < 3; part++) y.lay(part);
        E.row(15, "its last column alone is not in it", Due.waste(y), 1, 0, 3, 3);
        E.row(14, "its columns rise, the last doesn't", Due.heights(y), 4, 4, 4, 4, 3);
        // lifted over a FIXED one that is in other heights of its columns
        SkylineNester z = scene(2, "p2x1 p2x3").fix(0, 0, 2).all();
        E.row(15, "lifted over a FIXED one: no WASTE over it", Due.waste(z));
        E.row(14, "lifted over a FIXED one", Due.heights(z), 6, 6);
    }

    private static void wasteAtFixed() {
        // heights 0 0 2 0 0, one FIXED at 0, 0: the left rectangle is over it, the right isn't
        SkylineNester x = Due.nester(5, "p1x1 g1x2:2 p5x1");
        x.fix(0, 0, 0);
        x.lay(1);
        x.lay(2);
        E.row(15, "a rectangle over a FIXED PART is none", Due.waste(x), 3, 0, 2, 2);
        // heights 3 0 0, one FIXED in the last column
        SkylineNester y = Due.nester(3, "p1x3 p1x1 p2x1 p2x1");
        y.fix(1, 2, 0);
        y.lay(0);
        y.lay(2);
        E.row(12, "two columns over a FIXED one", Due.heights(y), 3, 2, 2);
        E.row(15, "one SEGMENT over it: none", Due.waste(y));
        // heights 1 0 2 0, one FIXED in the last column: SEGMENTS are looked at one by one
        SkylineNester z = Due.nester(4, "p1x1 g1x1 g1x2:2 p4x1");
        z.fix(0, 3, 0);
        z.lay(1);
        z.lay(2);
        E.row(14, "three SEGMENTS and one FIXED", Due.heights(z), 1, 0, 2, 0);
        z.lay(3);
        E.row(15, "only those that aren't over it", Due.waste(z), 1, 0, 1, 2, 0, 1, 1, 1);
        // heights 2 0, one FIXED in the last column
        SkylineNester w = Due.nester(2, "p1x1 p2x1 p1x2 p2x1");
        w.fix(0, 1, 0);
        w.lay(2);
        w.lay(1);
        E.row(14, "two high beside one FIXED of one", Due.heights(w), 3, 3);
        E.row(15, "the column is over the FIXED one", Due.waste(w));
        // heights 1 2, one FIXED at 3 in the first column: 2 x 1 lies between, what is below it isn't over the FIXED one
        SkylineNester v = Due.nester(2, "p1x1 p1x1 p1x2 p2x1");
        v.fix(0, 0, 3);
        for (int part = 1; part < 4; part++) v.lay(part);
        E.row(14, "just below a FIXED one", Due.heights(v), 3, 3);
        E.row(15, "a FIXED one above does no harm", Due.waste(v), 0, 1, 1, 1);
    }

    // ---- promises 14 and 15

    private static void sky() {
        for (int k : new int[] {-2, -1, 0, 1, 2, MIN, MAX}) {
            E.still(14, "BAD: what -1, k " + k, Edge::rich, x -> x.sky(k, -1), BAD);
            E.still(14, "BAD: what 3, k " + k, Edge::rich, x -> x.sky(k, 3), BAD);
            E.is(14, "BAD: what MIN, k " + k, Edge.rich().sky(k, MIN), BAD);
            E.is(14, "BAD: what MAX, k " + k, Edge.rich().sky(k, MAX), BAD);
        }
        int[][] want = {{0, 2, 4}, {2, 4, 3}};
        for (int what = 0; what < 3; what++) {
            int asked = what;
            E.still(14, "k -1: how many", Edge::rich, x -> x.sky(-1, asked), 2);
            E.still(14, "-12: k -2", Edge::rich, x -> x.sky(-2, asked), -12);
            E.still(14, "-12: one behind the last", Edge::rich, x -> x.sky(2, asked), -12);
            E.is(14, "-12: k MIN", Edge.rich().sky(MIN, what), -12);
            E.is(14, "-12: k MAX", Edge.rich().sky(MAX, what), -12);
            E.still(14, "the first", Edge::rich, x -> x.sky(0, asked), want[0][asked]);
            E.still(14, "the last", Edge::rich, x -> x.sky(1, asked), want[1][asked]);
            E.is(14, "-12: an empty strip has one", new SkylineNester().sky(1, what), -12);
        }
        E.is(14, "a strip of one column", Due.nester(1, "").sky(-1, 0), 1);
        E.is(14, "-12: a strip of one column", Due.nester(1, "").sky(1, 0), -12);
        SkylineNester x = Due.nester(20, "g1x1:2*9 g1x1:2");
        x.order(NONE);
        x.run();
        E.is(14, "no more than 20", x.sky(-1, 0), 20);
        E.row(14, "the last of 20", new int[] {x.sky(19, 0), x.sky(19, 1), x.sky(19, 2)}, 19, 1, 0);
        E.row(14, "the last but one", new int[] {x.sky(18, 0), x.sky(18, 1), x.sky(18, 2)}, 18, 1, 1);
        E.is(14, "-12: behind 20", x.sky(20, 0), -12);
        // one height again behind another is a SEGMENT of its own; side by side they are one
        SkylineNester y = Due.nester(4, "p1x1 g1x1:2 g1x1");
        y.lay(0);
        y.lay(1);
        E.is(14, "the longest runs of one height: apart", y.sky(-1, 0), 4);
        y.lay(2);
        E.is(14, "the longest runs of one height: together", y.sky(-1, 0), 2);
        E.is(14, "the longest runs of one height: how wide", y.sky(0, 1), 3);
    }

    private static void waste() {
        for (int k : new int[] {-2, -1, 0, 1, MIN, MAX}) {
            E.still(15, "BAD: what -1, k " + k, Edge::rich, x -> x.waste(k, -1), BAD);
            E.still(15, "BAD: what 4, k " + k, Edge::rich, x -> x.waste(k, 4), BAD);
            E.is(15, "BAD: what MIN, k " + k, Edge.rich().waste(k, MIN), BAD);
            E.is(15, "BAD: what MAX, k " + k, Edge.rich().waste(k, MAX), BAD);
        }
        int[] want = {5, 1, 1, 1};
        for (int what = 0; what < 4; what++) {
            int asked = what;
            E.still(15, "k -1: how many", Edge::rich, x -> x.waste(-1, asked), 1);
            E.still(15, "-12: k -2", Edge::rich, x -> x.waste(-2, asked), -12);
            E.still(15, "-12: one behind the last", Edge::rich, x -> x.waste(1, asked), -12);
            E.is(15, "-12: k MIN", Edge.rich().waste(MIN, what), -12);
            E.is(15, "-12: k MAX", Edge.rich().waste(MAX, what), -12);
            E.still(15, "the only one", Edge::rich, x -> x.waste(0, asked), want[asked]);
            E.is(15, "k -1: none", new SkylineNester().waste(-1, what), 0);
            E.is(15, "-12: none", new SkylineNester().waste(0, what), -12);
        }
        // nine columns of height 1, each at an even x: 19 x 1 over them covers what is between
        SkylineNester x = Due.nester(20, "g1x1:2*9 p19x1");
        for (int part = 0; part < 10; part++) x.lay(part);
        E.is(15, "many", x.waste(-1, 0), 9);
        E.row(15, "the first of many", new int[] {x.waste(0, 0), x.waste(0, 1), x.waste(0, 2), x.waste(0, 3)}, 1, 0, 1, 1);
        E.row(15, "the last of many", new int[] {x.waste(8, 0), x.waste(8, 1), x.waste(8, 2), x.waste(8, 3)}, 17, 0, 2, 1);
        E.is(15, "-12: behind the last of many", x.waste(9, 0), -12);
        SkylineNester y = scene(4, "p2x2 p4x1 p1x1").withoutWaste().made();
        E.is(15, "WASTE that isn't used is told", y.waste(-1, 0), 1);
    }
}
