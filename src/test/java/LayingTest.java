/** Promises 9 to 15: swap, rule, place, lay, run, sky, waste; with them how kinds may lie. */
public final class LayingTest {
    private static final Due D = new Due("LayingTest");
    private static final int NONE = Due.NONE, BAD = Due.BAD, STATE = Due.STATE;

    public static void main(String[] args) {
        swap();
        rule();
        ruleWasted();
        ruleUpperEdge();
        ruleTouching();
        ties();
        turned();
        grained();
        clear();
        stepped();
        heavy();
        place();
        lay();
        run();
        sky();
        wasteComes();
        wasteIsChosen();
        wasteIsSplit();
        wasteAndKinds();
        wasteAsked();
        wasteNotUsed();
        D.end();
    }

    private static void swap() {
        SkylineNester x = Due.nester(9, "p1x1*4");
        D.due("swap of none", x.swap(0, 0), -12);
        x.order(NONE);
        D.due("swap(0, 3)", x.swap(0, 3), 3);
        D.due("swap(3, 3)", x.swap(3, 3), 0);
        D.due("swap(1, 3)", x.swap(1, 3), 0);
        D.due("swap(-1, 0)", x.swap(-1, 0), -12);
        D.due("swap(0, -1)", x.swap(0, -1), -12);
        D.due("swap(4, 0)", x.swap(4, 0), -12);
        D.due("swap(0, 4)", x.swap(0, 4), -12);
        int[] want = {3, 0, 2, 1};
        for (int k = 0; k < 4; k++) D.due("place " + k, x.swap(k, k), want[k]);
    }

    private static void rule() {
        SkylineNester x = new SkylineNester();
        D.due("rule(3, 0)", x.rule(3, 0), 1);
        D.due("rule(-1, 0)", x.rule(-1, 0), BAD);
        D.due("rule(4, 0)", x.rule(4, 0), BAD);
        D.due("rule(0, -1)", x.rule(0, -1), BAD);
        D.due("rule(0, 2)", x.rule(0, 2), BAD);
        D.due("rule(2, 1)", x.rule(2, 1), 6);
        D.due("rule(1, 1)", x.rule(1, 1), 5);
        D.due("rule(0, 0)", x.rule(0, 0), 3);
        D.due("rule(0, 1)", x.rule(0, 1), 0);
    }

    /** Lays all but the last part, then tells where the last one would come to by each rule. */
    private static void where(String items, int wide, int... xyOfEachRule) {
        SkylineNester x = Due.nester(wide, items);
        int last = x.count(0) - 1;
        for (int k = 0; k < last; k++) x.lay(k);
        for (int rule = 0; rule < 4; rule++) {
            x.rule(rule, 1);
            D.due(items + " by rule " + rule + ", x", x.place(last, 0), xyOfEachRule[2 * rule]);
            D.due(items + " by rule " + rule + ", y", x.place(last, 1), xyOfEachRule[2 * rule + 1]);
        }
    }

    private static void ruleWasted() {
        // heights 3 1 1 2 0: 2 wide lies lowest at x 1; nothing is wasted there either
        where("p1x3 p2x1 p1x2 p2x1", 5, 1, 1, 1, 1, 1, 1, 1, 1);
        // heights 4 4 2 0: the least y wastes 2, the least waste is the highest
        where("p2x4 p1x2 p2x1", 4, 2, 2, 0, 4, 2, 2, 2, 2);
    }

    private static void ruleUpperEdge() {
        // heights 2 2 0: as it is it would lie at 2 and end at 3, turned over at 0 and end at 3
        SkylineNester x = Due.nester(3, "p2x2 t2x1 t3x1");
        x.lay(0);
        x.rule(2, 1);
        D.due("y + t alike: the least y", x.place(1, 1), 0);
        D.due("y + t alike: turned over", x.place(1, 2), 1);
        D.due("y + t is less as it is, y", x.place(2, 1), 0);
        D.due("3 high from 0, or 1 high from 2: alike, so y is less", x.place(2, 2), 1);
        SkylineNester y = Due.nester(4, "p3x2 t4x1");
        y.lay(0);
        y.rule(2, 1);
        D.due("least y + t", y.place(1, 1), 2);
        D.due("as it is", y.place(1, 2), 0);
        y.rule(0, 1);
        D.due("least y", y.place(1, 1), 0);
        D.due("turned over", y.place(1, 2), 1);
    }

    private static void ruleTouching() {
        // heights 3 3 0 0 0 3 3: a part 3 wide fits; one 2 wide touches at x 2 with 2 columns and 3 heights
        SkylineNester x = Due.nester(7, "p2x3 p3x1 p2x3 p2x9 p1x2 p3x1");
        x.rule(3, 1);
        x.lay(0);
        D.due("first at the side", x.told(0, 4), 0);
        D.due("again at a side", x.place(2, 0), 2);
        // beside 3 high: columns 2, left 3 of 3, and the other side of the strip: 2 columns and 3 heights
        x.lay(2);
        D.dueRow("heights", Due.heights(x), 3, 3, 3, 3, 0, 0, 0);
        // 2 x 9 at 4: 2 columns, 3 heights left of it; at 5: 2 columns, 9 heights of the side
        D.due("the strip's side counts all its heights", x.place(3, 0), 5);
        // on top at 0: 2 columns and 9 heights of the side as well, but y is more
        D.due("the least y of these", x.place(3, 1), 0);
        // 1 x 2 at 4: 1 column, 2 heights of 3; at 6: 1 and 2; the least x of these
        D.due("no more heights than it has", x.place(4, 0), 4);
        // 3 x 1 in the gap: 3 columns, 1 left, 1 right
        D.due("the gap", x.place(5, 0), 4);
        // heights 4 0 0 0 0 5, a part 2 x 3 at 1: 2 + 3; at 3: 2 + 3; of 1 and 3 the least x
        where("p1x4 p4x1 p1x5 p2x3", 6, 1, 1, 1, 1, 1, 1, 1, 1);
        // heights 1 0 2: 1 x 3 at 1 touches 1 + 1 + 2, at 0 1 + 3 + 0: both 4, then y
        where("p1x1 p1x2 p1x3", 3, 2, 0, 2, 0, 2, 0, 2, 0);
        // FIXED ones beside it don't count
        SkylineNester y = Due.nester(5, "p1x5 p1x1 p2x2");
        y.fix(0, 1, 0);
        y.rule(3, 1);
        D.due("fixed ones don't touch", y.place(2, 0), 3);
    }

    private static void ties() {
        // as it is and turned over alike: as it is
        SkylineNester x = Due.nester(6, "t2x2 t2x4 t4x2");
        D.due("a square is not turned", x.place(0, 2), 0);
        D.due("same y and x: as it is", x.place(1, 2), 0);
        D.due("same y and x: as it is, too", x.place(2, 2), 0);
        x.rule(2, 1);
        D.due("less high turned over", x.place(1, 2), 1);
        D.due("less high as it is", x.place(2, 2), 0);
        // turned over at a less x wins from as it is at a greater one
        SkylineNester y = Due.nester(5, "p1x4 p1x2 t3x1");
        y.lay(0);
        y.lay(1);
        D.dueRow("heights", Due.heights(y), 4, 2, 0, 0, 0);
        D.due("x 2", y.place(2, 0), 2);
        D.due("as it is", y.place(2, 2), 0);
        SkylineNester z = Due.nester(5, "p3x4 t3x2");
        z.lay(0);
        D.due("only turned over at 3", z.place(1, 0), 3);
        D.due("turned over", z.place(1, 2), 1);
        // by WASTED all on flat ground are alike: the least y, then the least x
        SkylineNester w = Due.nester(5, "p2x4 p1x1");
        w.lay(0);
        w.rule(1, 1);
        D.due("least y of the same waste", w.place(1, 0), 2);
    }

    private static void turned() {
        SkylineNester x = Due.nester(4, "p2x3 t2x5 t3x4 c3x4 g1x2 p3x1 t3x1 s3x1 h3x1:9 c3x1");
        D.due("H above WIDE: may not turn", x.bound(1), 0);
        x.lay(0);
        // heights 3 3 0 0
        D.due("t2x5 as it is", x.place(1, 2), 0);
        D.due("t3x4: turned it is 4 wide", x.place(2, 0), 0);
        D.due("t3x4: as it is at 0", x.place(2, 2), 0);
        x.rule(2, 1);
        D.due("t3x4: y + t is 6 turned over", x.place(2, 2), 1);
        D.due("c3x4: y + t is 7 turned over", x.place(3, 2), 1);
        x.rule(0, 1);
        x.lay(4);
        // heights 3 3 2 0: only those that may turn fit at 3
        D.due("p3x1 y", x.place(5, 1), 3);
        D.due("t3x1 y", x.place(6, 1), 0);
        D.due("t3x1 x", x.place(6, 0), 3);
        D.due("s3x1 y", x.place(7, 1), 3);
        D.due("h3x1 y", x.place(8, 1), 3);
        D.due("c3x1 y", x.place(9, 1), 0);
        D.due("c3x1 turned over", x.place(9, 2), 1);
        x.lay(9);
        D.dueRow("c3x1 turned over is 4 high", Due.heights(x), 3, 3, 2, 4);
    }

    private static void grained() {
        SkylineNester x = Due.nester(8, "p1x2 g2x1:3 g2x1:5 g4x1:5 g2x1:9");
        x.lay(0);
        D.due("multiples of 3", x.place(1, 0), 3);
        D.due("multiples of 5", x.place(2, 0), 5);
        D.due("0 is one", x.place(3, 0), 0);
        D.due("0 is one, y", x.place(3, 1), 2);
        D.due("only 0", x.place(4, 0), 0);
        SkylineNester y = Due.nester(5, "g2x4:2");
        y.lay(0);
        D.due("grained ones don't turn", y.told(0, 6), 0);
    }

    private static void clear() {
        SkylineNester x = Due.nester(4, "c2x2 p2x1 c4x9");
        D.due("c lies", x.lay(0), 0);
        D.dueRow("t is h and 1", Due.heights(x), 3, 3, 0, 0);
        x.rule(1, 1);
        D.due("c4x9 can't turn in 4", x.place(2, 2), 0);
        D.due("c4x9 y", x.lay(2), 3);
        D.due("c4x9 is 10 high", x.count(3), 13);
    }

    private static void stepped() {
        SkylineNester x = Due.nester(6, "p6x1 p1x1 s1x1:2 s1x1:3");
        x.lay(0);
        D.due("y 1 is no multiple of 2", x.place(2, 0), NONE);
        x.lay(1);
        // heights 2 1 1 1 1 1
        D.due("y 2 is one", x.place(2, 0), 0);
        D.due("y 2", x.place(2, 1), 2);
        D.due("2 is no multiple of 3", x.place(3, 3), NONE);
        D.due("lay", x.lay(3), NONE);
        D.due("it doesn't lie", x.told(3, 7), 0);
        // at x 3 its y would be 0, at 1 as well: only multiples of 3
        SkylineNester y = Due.nester(6, "p1x1 s2x1:3");
        y.lay(0);
        D.due("x is a multiple, too", y.place(1, 0), 3);
        // a fixed one lifts it to a height that is no multiple
        SkylineNester z = Due.nester(2, "p2x1 s2x1:2 s2x1:1");
        z.fix(0, 0, 0);
        D.due("lifted to 1", z.place(1, 1), NONE);
        D.due("lifted to 1, all may lie there", z.place(2, 1), 1);
    }

    private static void heavy() {
        // heights 3 0 0 with 2 wide at 1: nothing wasted; all 3 wide: 6 wasted
        SkylineNester x = Due.nester(3, "p1x3 h2x1 h3x1:6 h3x1:7 h3x1");
        x.lay(0);
        D.due("nothing wasted", x.place(1, 1), 0);
        D.due("6 is not less than 6", x.place(2, 1), NONE);
        D.due("6 is less than 7", x.place(3, 1), 3);
        D.due("FIGURE is 1", x.place(4, 1), NONE);
        // lifted by a fixed one: what is below is wasted, although it can't be used
        SkylineNester y = Due.nester(2, "p1x1 h2x1:2 h2x1:3 h1x1");
        y.fix(0, 0, 0);
        D.due("2 wasted", y.place(1, 1), NONE);
        D.due("2 is less than 3", y.place(2, 1), 1);
        D.due("beside it nothing is", y.place(3, 0), 1);
    }

    private static void place() {
        SkylineNester x = Due.nester(4, "p2x3 p3x1 p1x1 s1x1:9 p1x1");
        D.due("place(-1, 0)", x.place(-1, 0), BAD);
        D.due("place(5, 0)", x.place(5, 0), BAD);
        D.due("place(0, -1)", x.place(0, -1), BAD);
        D.due("place(0, 4)", x.place(0, 4), BAD);
        x.lay(0);
        D.due("place(0, 4): BAD ahead of STATE", x.place(0, 4), BAD);
        D.due("place(0, 0)", x.place(0, 0), STATE);
        x.lay(1);
        D.dueRow("waste", Due.waste(x), 2, 0, 1, 3);
        D.due("in waste: x", x.place(2, 0), 2);
        D.due("in waste: y", x.place(2, 1), 0);
        D.due("in waste: turned", x.place(2, 2), 0);
        D.due("in waste", x.place(2, 3), 1);
        D.dueRow("it doesn't lie", Due.lies(x, 2), NONE, NONE, NONE, 0);
        D.due("it is not LAID by that", x.count(2), 2);
        D.due("nowhere: s1x1:9 at 0, 0 only", x.place(3, 3), NONE);
        x.rule(0, 0);
        D.due("onto the skyline: x", x.place(2, 0), 3);
        D.due("onto the skyline", x.place(2, 3), 0);
        SkylineNester y = Due.nester(4, "p1x1");
        y.fix(0, 0, 0);
        D.due("a fixed one lies", y.place(0, 0), STATE);
    }

    private static void lay() {
        SkylineNester x = Due.nester(4, "p2x3 p3x1 p1x1*2 s1x1:9");
        D.due("lay(-2)", x.lay(-2), BAD);
        D.due("lay(5)", x.lay(5), BAD);
        D.due("lay(NONE) of nothing", x.lay(NONE), 0);
        x.fix(3, 3, 5);
        D.due("a fixed one", x.lay(3), STATE);
        D.due("lay(0)", x.lay(0), 0);
        D.due("lay(0) again", x.lay(0), STATE);
        D.due("lay(1)", x.lay(1), 3);
        D.due("lay(2)", x.lay(2), 0);
        D.due("in waste", x.told(2, 7), 3);
        D.due("lay(4)", x.lay(4), NONE);
        D.dueRow("the skyline stays by waste", Due.heights(x), 4, 4, 4, 0);
        D.due("lying", x.count(2), 4);
        D.due("lay(NONE)", x.lay(NONE), 0);
        D.due("lying", x.count(2), 1);
        D.due("top is that of the fixed one", x.count(3), 6);
        D.due("no waste", x.waste(-1, 0), 0);
        D.dueRow("the skyline is 0", Due.heights(x), 0, 0, 0, 0);
        D.due("s may lie now", x.lay(4), 0);
        D.due("parts that aren't in the order are laid, too", x.count(1), 0);
    }

    private static void run() {
        SkylineNester x = Due.nester(4, "p3x2 s3x3:2 p4x1 s2x2:4 p1x9");
        x.order(NONE);
        x.swap(0, 4);
        // p1x9 at 0; s3x3:2 at 0 needs y 9, at 2 it doesn't fit: left out
        D.due("some are left out", x.run(), 3);
        D.dueRow("s is left out", Due.lies(x, 1), NONE, NONE, NONE, 0);
        D.dueRow("s is left out, too", Due.lies(x, 3), NONE, NONE, NONE, 0);
        D.dueRow("p1x9", Due.lies(x, 4), 0, 0, 0, 2);
        D.dueRow("p4x1", Due.lies(x, 2), 0, 9, 0, 2);
        D.dueRow("p3x2 in waste", Due.lies(x, 0), 1, 0, 0, 3);
        D.dueRow("waste", Due.waste(x), 1, 2, 3, 7);
        D.due("a run again is the same", x.run(), 3);
        D.due("top", x.count(3), 10);
        Due.order(x, 0, 0);
        D.due("all that isn't in the order goes", x.run(), 1);
        D.due("one lies", x.count(2), 1);
        Due.order(x, 0);
        D.due("an empty order", x.run(), 0);
        D.due("nothing lies", x.count(2), 0);
        x.fix(0, 0, 0);
        x.order(NONE);
        x.run();
        D.dueRow("a fixed one stays", Due.lies(x, 0), 0, 0, 0, 1);
    }

    private static void sky() {
        SkylineNester x = Due.nester(6, "p1x2 p2x1 p1x1 p1x3");
        for (int k = 0; k < 4; k++) x.lay(k);
        D.dueRow("heights", Due.heights(x), 2, 1, 1, 1, 3, 0);
        D.due("sky(-1, 0)", x.sky(-1, 0), 4);
        D.due("sky(-1, 2)", x.sky(-1, 2), 4);
        D.due("sky(-1, 3)", x.sky(-1, 3), BAD);
        D.due("sky(-1, -1)", x.sky(-1, -1), BAD);
        D.due("sky(9, 3)", x.sky(9, 3), BAD);
        D.due("sky(4, 0)", x.sky(4, 0), -12);
        D.due("sky(-2, 0)", x.sky(-2, 0), -12);
        D.due("sky(max, 0)", x.sky(Integer.MAX_VALUE, 0), -12);
        int[][] want = {{0, 1, 2}, {1, 3, 1}, {4, 1, 3}, {5, 1, 0}};
        for (int k = 0; k < 4; k++) {
            for (int what = 0; what < 3; what++) D.due("sky(" + k + ", " + what + ")", x.sky(k, what), want[k][what]);
        }
        SkylineNester y = Due.nester(1, "p1x9*9");
        y.order(NONE);
        y.run();
        D.due("a narrow one", y.sky(0, 2), 81);
        D.due("a narrow one has one segment", y.sky(-1, 0), 1);
    }

    private static void wasteComes() {
        // heights 2 0 0 1 0, then all wide: three rectangles, by y then x
        SkylineNester y = Due.nester(5, "g1x2:1 g1x1:3 p5x1");
        y.lay(0);
        y.rule(1, 1);
        y.lay(1);
        D.dueRow("heights", Due.heights(y), 2, 0, 0, 1, 0);
        D.due("all wide", y.lay(2), 2);
        D.dueRow("by y, then x", Due.waste(y), 1, 0, 2, 2, 4, 0, 1, 2, 3, 1, 1, 1);
        D.dueRow("heights", Due.heights(y), 3, 3, 3, 3, 3);
        // a segment that goes on behind the part: only what is in its columns
        SkylineNester w = Due.nester(6, "p2x2 g4x1:5 g3x1:7");
        w.lay(0);
        w.lay(2);
        D.dueRow("half a segment", Due.waste(w), 2, 0, 1, 2);
        D.dueRow("heights", Due.heights(w), 3, 3, 3, 0, 0, 0);
        // a fixed one takes the rectangle that it is over, and that alone
        SkylineNester v = Due.nester(5, "p1x1 g1x2:2 p5x1 p1x1");
        v.fix(0, 1, 1);
        D.due("at 2", v.lay(1), 0);
        v.lay(NONE);
        v.fix(3, 0, 0);
        v.lay(1);
        D.dueRow("heights", Due.heights(v), 0, 0, 2, 0, 0);
        v.lay(2);
        D.dueRow("the left one is over fixed ones", Due.waste(v), 3, 0, 2, 2);
    }

    private static void wasteIsChosen() {
        // rectangles: (1, 0, 2, 2), (4, 0, 1, 2), (3, 1, 1, 1)
        SkylineNester x = Due.nester(5, "g1x2 g1x1:3 p5x1 p1x1 p1x2 p2x1 t2x1 p2x2 p3x1");
        x.lay(0);
        x.rule(1, 1);
        x.lay(1);
        x.lay(2);
        D.dueRow("waste", Due.waste(x), 1, 0, 2, 2, 4, 0, 1, 2, 3, 1, 1, 1);
        D.due("1 x 1: nothing left of it", x.place(3, 0), 3);
        D.due("1 x 1: in waste", x.place(3, 3), 1);
        D.due("1 x 2: nothing left of it", x.place(4, 0), 4);
        D.due("2 x 1: room only there", x.place(5, 0), 1);
        D.due("2 x 1 turned over: less left", x.place(6, 0), 4);
        D.due("2 x 1 turned over", x.place(6, 2), 1);
        D.due("2 x 2", x.place(7, 0), 1);
        D.due("3 x 1: no room", x.place(8, 3), 0);
        D.due("3 x 1: on the skyline", x.place(8, 1), 3);
        // of those with as much left the first, then as it is
        SkylineNester z = Due.nester(5, "p1x2 g2x2:2 p5x1 p1x1 t1x2 t2x1 c1x1");
        z.lay(0);
        z.lay(1);
        z.lay(2);
        D.dueRow("two alike", Due.waste(z), 1, 0, 1, 2, 4, 0, 1, 2);
        D.due("the first of these", z.place(3, 0), 1);
        D.due("t2x1 must turn", z.place(5, 2), 1);
        D.due("t1x2 needn't", z.place(4, 2), 0);
        D.due("c1x1: as it is", z.place(6, 2), 0);
        SkylineNester w = Due.nester(5, "p2x3 p1x1 p5x1 t2x1 c1x2");
        w.lay(0);
        w.lay(2);
        D.dueRow("3 x 3", Due.waste(w), 2, 0, 3, 3);
        D.due("as it is of alike ones", w.place(3, 2), 0);
        D.due("c1x2 turned over takes 4, not 3", w.place(4, 2), 1);
    }

    private static void wasteIsSplit() {
        SkylineNester x = Due.nester(6, "p1x5 p6x1 p2x2 p3x1 p3x2 p2x3");
        x.lay(0);
        x.lay(1);
        D.dueRow("5 x 5", Due.waste(x), 1, 0, 5, 5);
        D.due("2 x 2", x.lay(2), 0);
        D.dueRow("right of the whole height, above of its width", Due.waste(x), 3, 0, 3, 5, 1, 2, 2, 3);
        D.due("2 x 3: nothing is left of the upper one", x.lay(5), 2);
        D.dueRow("it goes", Due.waste(x), 3, 0, 3, 5);
        D.due("3 x 1 has all its width", x.lay(3), 0);
        D.dueRow("only above", Due.waste(x), 3, 1, 3, 4);
        D.due("3 x 2", x.lay(4), 1);
        D.dueRow("only above again", Due.waste(x), 3, 3, 3, 2);
        D.dueRow("in waste", Due.lies(x, 4), 3, 1, 0, 3);
        D.dueRow("the skyline stays", Due.heights(x), 6, 6, 6, 6, 6, 6);
        SkylineNester y = Due.nester(4, "p1x2 p4x1 p1x2 t1x2");
        for (int k = 0; k < 3; k++) y.lay(k);
        D.dueRow("only right of it", Due.waste(y), 2, 0, 2, 2);
        y.lay(3);
        D.dueRow("as it is", Due.waste(y), 3, 0, 1, 2);
    }

    private static void wasteAndKinds() {
        // one rectangle: (1, 0, 5, 4), then with 2 x 1 in it (3, 0, 3, 4) and (1, 1, 2, 3)
        SkylineNester x = Due.nester(6, "p1x4 p6x1 p2x1 g2x1:3 g2x1:2 s1x1:1 s1x1:3 h1x1 c2x2");
        x.lay(0);
        x.lay(1);
        x.lay(2);
        D.dueRow("waste", Due.waste(x), 3, 0, 3, 4, 1, 1, 2, 3);
        D.due("g at 3", x.place(3, 0), 3);
        D.due("g at neither 1 nor 3", x.place(4, 3), 0);
        D.due("s of 1", x.place(5, 3), 1);
        D.due("s of 3 at 3, 0", x.place(6, 0), 3);
        D.due("h wastes nothing there", x.place(7, 3), 1);
        D.due("c needs a height more", x.place(8, 0), 1);
        D.due("c needs a height more, y", x.place(8, 1), 1);
        x.lay(8);
        D.dueRow("it takes all of it", Due.waste(x), 3, 0, 3, 4);
        SkylineNester y = Due.nester(6, "p1x4 p6x1 p5x1 s1x1:3");
        for (int k = 0; k < 3; k++) y.lay(k);
        D.dueRow("at y 1", Due.waste(y), 1, 1, 5, 3);
        D.due("no s at y 1", y.place(3, 0), NONE);
    }

    private static void wasteAsked() {
        SkylineNester x = Due.nester(5, "p1x2 p5x1");
        x.lay(0);
        D.due("none", x.waste(-1, 0), 0);
        x.lay(1);
        D.due("waste(-1, 3)", x.waste(-1, 3), 1);
        D.due("waste(-1, 4)", x.waste(-1, 4), BAD);
        D.due("waste(-1, -1)", x.waste(-1, -1), BAD);
        D.due("waste(0, 4)", x.waste(0, 4), BAD);
        D.due("waste(5, 4)", x.waste(5, 4), BAD);
        D.due("waste(1, 0)", x.waste(1, 0), -12);
        D.due("waste(-2, 0)", x.waste(-2, 0), -12);
        int[] want = {1, 0, 4, 2};
        for (int what = 0; what < 4; what++) D.due("waste(0, " + what + ")", x.waste(0, what), want[what]);
    }

    private static void wasteNotUsed() {
        SkylineNester x = Due.nester(5, "p1x2 p5x1 p1x1");
        x.order(NONE);
        x.rule(0, 0);
        x.run();
        D.dueRow("it comes all the same", Due.waste(x), 1, 0, 4, 2);
        D.dueRow("but nothing is laid there", Due.lies(x, 2), 0, 3, 0, 2);
        x.rule(0, 1);
        x.run();
        D.dueRow("here it is", Due.lies(x, 2), 1, 0, 0, 3);
    }
}
