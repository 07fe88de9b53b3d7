/** Promises 1 to 8: a new object, feed, strip, parts, told, taken, fix, order. */
public final class StripPartsTest {
    private static final Due D = new Due("StripPartsTest");
    private static final int NONE = Due.NONE, BAD = Due.BAD, STATE = Due.STATE, FULL = Due.FULL;

    public static void main(String[] args) {
        newObject();
        feed();
        strip();
        parts();
        faults();
        told();
        taken();
        fix();
        fixedParts();
        order();
        D.end();
    }

    private static void newObject() {
        SkylineNester x = new SkylineNester();
        int[] counts = {0, 0, 0, 0, 0, 10, 0, 1};
        for (int what = 0; what < 8; what++) D.due("new count(" + what + ")", x.count(what), counts[what]);
        D.due("new sky(-1, 0)", x.sky(-1, 0), 1);
        D.due("new sky(0, 1)", x.sky(0, 1), 10);
        D.due("new sky(0, 2)", x.sky(0, 2), 0);
        D.due("new waste(-1, 0)", x.waste(-1, 0), 0);
        D.due("new rule(0, 1)", x.rule(0, 1), 1);
        D.due("new run()", x.run(), 0);
        for (int k = 0; k < 4; k++) {
            D.due("new laid(" + k + ", 0)", x.laid(k, 0), -11);
            D.due("new put(" + k + ", 0, 0)", x.put(k, 0, 0), -11);
        }
        D.due("new back()", x.back(), STATE);
        D.due("constant NONE", SkylineNester.NONE, -1);
        D.due("constant BAD", SkylineNester.BAD, -2);
        D.due("constant STATE", SkylineNester.STATE, -3);
        D.due("constant FULL", SkylineNester.FULL, -4);
    }

    private static void feed() {
        SkylineNester x = new SkylineNester();
        D.due("feed 0 bytes", x.feed(0, 1, 1, 1, 1, 1), BAD);
        D.due("feed 6 bytes", x.feed(6, 1, 1, 1, 1, 1), BAD);
        D.due("feed -1 bytes", x.feed(-1, 1, 1, 1, 1, 1), BAD);
        D.due("feed 256", x.feed(1, 256, 0, 0, 0, 0), BAD);
        D.due("feed -1 first", x.feed(1, -1, 0, 0, 0, 0), BAD);
        D.due("feed not asked b", x.feed(1, 0, 256, 0, 0, 0), BAD);
        D.due("feed not asked c", x.feed(1, 0, 0, -1, 0, 0), BAD);
        D.due("feed not asked d", x.feed(1, 0, 0, 0, 256, 0), BAD);
        D.due("feed not asked e", x.feed(4, 0, 0, 0, 0, 300), BAD);
        D.due("tape after BAD", x.count(4), 0);
        D.due("feed 1", x.feed(1, 255, 0, 0, 0, 255), 1);
        D.due("feed 2", x.feed(2, 0, 0, 0, 0, 0), 3);
        D.due("feed 3", x.feed(3, 0, 0, 0, 0, 0), 6);
        D.due("feed 4", x.feed(4, 0, 0, 0, 0, 0), 10);
        for (int k = 3; k <= 11; k++) D.due("feed 5", x.feed(5, 0, 0, 0, 0, 0), 5 * k);
        D.due("feed 55", x.count(4), 55);
        D.due("feed 3 more", x.feed(3, 0, 0, 0, 0, 0), 58);
        D.due("feed no room", x.feed(3, 0, 0, 0, 0, 0), FULL);
        D.due("feed BAD ahead of FULL", x.feed(3, 0, 0, 0, 0, 256), BAD);
        D.due("feed to the full", x.feed(2, 0, 0, 0, 0, 0), 60);
        D.due("feed 1 too many", x.feed(1, 0, 0, 0, 0, 0), FULL);
        D.due("tape is full", x.count(4), 60);
        SkylineNester y = new SkylineNester();
        D.due("five in their order", Due.parts(y, "g3x25".substring(0, 4)), 1);
        y.feed(5, 's', '4', 'x', '7', ':');
        y.feed(1, '8', 0, 0, 0, 0);
        D.due("in their order", y.parts(), 2);
        D.dueRow("what was fed", new int[] {y.told(1, 0), y.told(1, 1), y.told(1, 2), y.told(1, 3)}, 4, 4, 7, 8);
    }

    private static void strip() {
        SkylineNester x = new SkylineNester();
        D.due("strip(0)", x.strip(0), BAD);
        D.due("strip(21)", x.strip(21), BAD);
        D.due("strip(-1)", x.strip(-1), BAD);
        D.due("wide as it was", x.count(5), 10);
        Due.parts(x, "p3x3*3");
        x.rule(2, 0);
        Due.order(x, 1, 2, 0);
        x.run();
        x.fix(1, 0, 0);
        Due.feed(x, "p1x1");
        Due.tell(x, 0, 1, 5, 6);
        x.image();
        D.due("strip(20)", x.strip(20), 10);
        D.due("strip: parts", x.count(0), 0);
        D.due("strip: order", x.count(1), 0);
        D.due("strip: lying", x.count(2), 0);
        D.due("strip: top", x.count(3), 0);
        D.due("strip: tape stays", x.count(4), 4);
        D.due("strip: wide", x.count(5), 20);
        D.dueRow("strip: skyline", Due.heights(x), new int[20]);
        D.due("strip: rack's place", x.laid(1, 0), NONE);
        D.due("strip: rack stays", x.laid(1, 1), NONE);
        D.due("strip: rack's size", x.laid(1, 2), -12);
        D.due("strip: rule stays", x.rule(0, 1), 4);
        D.due("strip: sheet stays", x.copy(0, 0, 0, 0, 2), 2);
        D.due("strip: image stays", x.back(), 3);
        D.due("strip: image's wide", x.count(5), 10);
        D.due("strip(1)", x.strip(1), 10);
        D.due("strip(1) again", x.strip(1), 1);
        SkylineNester y = Due.nester(4, "p2x2:1");
        y.fix(0, 1, 1);
        y.strip(4);
        D.due("strip: fixed ones go", y.count(3), 0);
        Due.parts(y, "p1x1");
        D.due("strip: new parts don't lie", y.told(0, 7), 0);
    }

    private static void parts() {
        SkylineNester x = new SkylineNester();
        D.due("all kinds", Due.parts(x, "p1x2 t2x3:4*2\ng3x4c4x5:9s5x6h10x7:1*1"), 7);
        int[][] want = {{0, 1, 2, 1}, {1, 2, 3, 4}, {1, 2, 3, 4}, {2, 3, 4, 1}, {3, 4, 5, 9}, {4, 5, 6, 1}, {5, 10, 7, 1}};
        for (int part = 0; part < 7; part++) {
            for (int what = 0; what < 4; what++) {
                D.due("told(" + part + ", " + what + ")", x.told(part, what), want[part][what]);
            }
        }
        D.due("tape is read", x.count(4), 0);
        D.due("blanks all over", Due.parts(x, "\n  p01x1 \n p1x1\n"), 9);
        D.due("one too many", Due.parts(x, "p1x1*2"), FULL);
        D.due("tape is empty by FULL", x.count(4), 0);
        D.due("none came", x.count(0), 9);
        D.due("a fault ahead of FULL", Due.parts(x, "p1x1*9p"), -107);
        D.due("tape is empty by a fault", x.count(4), 0);
        D.due("the last one", Due.parts(x, "c1x1"), 10);
        D.due("the last one's kind", x.told(9, 0), 3);
        D.due("full", Due.parts(x, "p1x1"), FULL);
        D.due("very many", Due.parts(Due.nester(3, ""), "p1x1*9p1x1*9p1x1*9p1x1*9p1x1*9p1x1*9p1x1*9p1x1*9p1x1*9p1x1*9"), FULL);
        SkylineNester y = Due.nester(20, "p3x3");
        y.order(NONE);
        y.run();
        D.due("parts come while others lie", Due.parts(y, "p20x9"), 2);
        D.dueRow("the new one doesn't lie", Due.lies(y, 1), NONE, NONE, NONE, 0);
        D.dueRow("the old one does", Due.lies(y, 0), 0, 0, 0, 2);
        D.due("order as it was", y.count(1), 1);
    }

    private static void fault(int wide, String text, int want) {
        SkylineNester x = Due.nester(wide, "");
        D.due("strip(" + wide + ") parts of \"" + text + "\"", Due.parts(x, text), want);
        D.due("no part of it", x.count(0), 0);
        D.due("no tape of it", x.count(4), 0);
    }

    private static void faults() {
        fault(10, "", -100);
        fault(10, " ", -101);
        fault(10, "\n \n", -103);
        fault(10, "x", -100);
        fault(10, "P1x1", -100);
        fault(10, "1x1", -100);
        fault(10, "\tp1x1", -100);
        fault(10, "  p", -103);
        fault(10, "p1", -102);
        fault(10, "p10", -103);
        fault(10, "p1x", -103);
        fault(10, "px1", -101);
        fault(10, "p x1", -101);
        fault(10, "p1X1", -102);
        fault(10, "p1 x1", -102);
        fault(10, "p1x 1", -103);
        fault(10, "p1x0", -103);
        fault(10, "p1xx", -103);
        fault(10, "p0x1", -101);
        fault(10, "p00x1", -101);
        fault(10, "p0", -101);
        fault(10, "p11x1", -101);
        fault(10, "p11", -101);
        fault(10, "p111x1", -101);
        fault(10, "p101x1", -103);
        fault(20, "p123x1", -103);
        fault(20, "p21x1", -101);
        fault(20, "p99x1", -101);
        fault(9, "p10x1", -101);
        fault(10, "p1x11", -104);
        fault(10, "p1x1:", -105);
        fault(10, "p1x1:0", -105);
        fault(10, "p1x1:*", -105);
        fault(10, "p1x1 :1", -105);
        fault(10, "p1x1:1:1", -106);
        fault(10, "p1x1:11", -106);
        fault(10, "p1x1:1*", -107);
        fault(10, "p1x1*0", -105);
        fault(10, "p1x1*1:2", -106);
        fault(10, "p1x1*1*1", -106);
        fault(10, "p1x1*12", -106);
        fault(10, "p1x1* 2", -105);
        fault(10, "p1x1,p1x1", -104);
        fault(10, "p1x1p0x1", -105);
        fault(10, "p1x1 p1x1 q", -110);
        fault(10, "p1x1x", -104);
    }

    private static void told() {
        SkylineNester x = Due.nester(5, "t4x3:7 c2x2:5");
        D.dueRow("doesn't lie", Due.lies(x, 0), NONE, NONE, NONE, 0);
        D.due("told(-1, 0)", x.told(-1, 0), BAD);
        D.due("told(2, 0)", x.told(2, 0), BAD);
        D.due("told(0, -1)", x.told(0, -1), BAD);
        D.due("told(0, 8)", x.told(0, 8), BAD);
        x.fix(0, 1, 7);
        D.dueRow("fixed", Due.lies(x, 0), 1, 7, 0, 1);
        x.fix(0, NONE, 0);
        D.dueRow("fixed no more", Due.lies(x, 0), NONE, NONE, NONE, 0);
        D.due("wide stays", x.told(0, 1), 4);
        // 4 wide beside 1 high: turned over it is 3 wide and 4 high, which loses by y + t
        x.rule(2, 1);
        x.lay(0);
        D.dueRow("as it is", Due.lies(x, 0), 0, 0, 0, 2);
        SkylineNester y = Due.nester(4, "p1x3 t2x4");
        y.lay(0);
        y.lay(1);
        D.dueRow("not turned: y is the same, x is", Due.lies(y, 1), 1, 0, 0, 2);
        SkylineNester z = Due.nester(4, "p3x1 t3x1");
        z.lay(0);
        z.lay(1);
        D.dueRow("turned over", Due.lies(z, 1), 3, 0, 1, 2);
        D.due("W stays by a turn", z.told(1, 1), 3);
        D.due("H stays by a turn", z.told(1, 2), 1);
        SkylineNester w = Due.nester(4, "p2x3 p3x2 p1x2");
        w.lay(0);
        w.lay(1);
        w.lay(2);
        D.dueRow("in waste", Due.lies(w, 2), 2, 0, 0, 3);
    }

    private static void taken() {
        SkylineNester x = Due.nester(9, "p2x3 t2x3 g2x3 c2x3 s2x3 h2x3");
        int[][] want = {
            {6, -13, -13, -13, -13, -13},
            {6, 6, -13, -13, -13, -13},
            {6, -13, 6, -13, -13, -13},
            {8, 8, -13, 8, -13, -13},
            {6, -13, 6, -13, 6, -13},
            {6, -13, -13, -13, -13, 6}};
        for (int part = 0; part < 6; part++) {
            for (int k = 0; k < 6; k++) D.due("taken(" + part + ", " + k + ")", x.taken(part, k), want[part][k]);
        }
        D.due("taken(6, 0)", x.taken(6, 0), BAD);
        D.due("taken(-1, 0)", x.taken(-1, 0), BAD);
        D.due("taken(0, 6)", x.taken(0, 6), BAD);
        D.due("taken(0, -1)", x.taken(0, -1), BAD);
        SkylineNester y = Due.nester(4, "p3x1 c3x1");
        y.lay(0);
        y.lay(1);
        D.due("c lies turned over", y.told(1, 6), 1);
        D.due("taken as it is, not as it lies", y.taken(1, 3), 6);
    }

    private static void fix() {
        SkylineNester x = Due.nester(6, "p3x2 c2x2 g2x1:5 p1x1*2");
        D.due("fix(-1, 0, 0)", x.fix(-1, 0, 0), BAD);
        D.due("fix(5, 0, 0)", x.fix(5, 0, 0), BAD);
        D.due("fix(0, -2, 0)", x.fix(0, -2, 0), BAD);
        D.due("fix(0, 20, 0)", x.fix(0, 20, 0), BAD);
        D.due("fix(0, 0, -1)", x.fix(0, 0, -1), BAD);
        D.due("fix(0, 0, 61)", x.fix(0, 0, 61), BAD);
        D.due("fix(0, NONE, 99): y doesn't matter", x.fix(0, NONE, 99), STATE);
        D.due("fix(0, 4, 0)", x.fix(0, 4, 0), -12);
        D.due("fix(0, 19, 0)", x.fix(0, 19, 0), -12);
        D.due("nothing lies yet", x.count(2), 0);
        D.due("fix(0, 3, 1)", x.fix(0, 3, 1), 1);
        D.due("fix again", x.fix(0, 0, 0), STATE);
        D.due("top of fixed", x.count(3), 3);
        D.due("over, by its clear height", x.fix(1, 2, 0), -15);
        D.due("side comes ahead of over", x.fix(1, 5, 1), -12);
        D.due("just left of it", x.fix(1, 1, 0), 1);
        D.due("over the clear height", x.fix(3, 1, 2), -15);
        D.due("just above", x.fix(3, 1, 3), 1);
        D.due("a grained one lies where it's told", x.fix(2, 3, 60), 1);
        D.due("top", x.count(3), 61);
        D.due("lying", x.count(2), 4);
        D.due("fix(0, NONE, -5)", x.fix(0, NONE, -5), 1);
        D.due("fix(0, NONE, 0) again", x.fix(0, NONE, 0), STATE);
        D.due("where it was is free", x.fix(4, 3, 1), 1);
        D.due("in the order", x.order(NONE), 1);
        D.due("it is in the order", x.fix(0, 3, 5), STATE);
        D.due("order of what is in a rack", Due.order(x, 0), 0);
        D.due("not in the order any more", x.fix(0, 3, 5), 1);
        SkylineNester y = Due.nester(6, "p3x2*3");
        y.fix(1, 0, 3);
        y.lay(0);
        D.due("something lies", y.fix(2, 3, 9), STATE);
        D.due("something lies: not freed", y.fix(1, NONE, 9), STATE);
        D.due("STATE ahead of the side", y.fix(2, 5, 9), STATE);
        y.lay(NONE);
        D.due("fixed stays by lay(NONE)", y.told(1, 7), 1);
        D.due("nothing but fixed lies", y.fix(2, 3, 9), 1);
    }

    private static void fixedParts() {
        SkylineNester x = Due.nester(6, "p2x2 p2x2 p3x1 p6x1");
        x.fix(0, 1, 1);
        D.due("fixed: the skyline stays", x.sky(-1, 0), 1);
        D.due("fixed: its height stays", x.sky(0, 2), 0);
        D.due("beside it", x.place(1, 0), 3);
        D.due("beside it, y", x.place(1, 1), 0);
        D.due("below it", x.place(2, 1), 0);
        D.due("below it, x", x.place(2, 0), 0);
        D.due("all wide below", x.lay(3), 0);
        D.due("then above it or beside", x.place(2, 0), 3);
        x.lay(1);
        D.dueRow("heights", Due.heights(x), 1, 1, 1, 3, 3, 1);
        D.due("above it", x.lay(2), 3);
        D.dueRow("no waste over it", Due.waste(x));
        D.dueRow("heights", Due.heights(x), 4, 4, 4, 3, 3, 1);
        // two fixed ones a height apart: neither between nor below there is room
        SkylineNester y = Due.nester(3, "p3x1 p3x1 p3x2 p1x3");
        y.fix(0, 0, 1);
        y.fix(1, 0, 3);
        D.due("above both", y.place(2, 1), 4);
        D.due("above both, too", y.lay(3), 4);
        D.dueRow("heights", Due.heights(y), 7, 0, 0);
        D.dueRow("no waste", Due.waste(y));
        D.due("top", y.count(3), 7);
    }

    private static void order() {
        SkylineNester x = Due.nester(9, "p1x1*5");
        x.fix(1, 8, 8);
        D.due("order(-2)", x.order(-2), BAD);
        D.due("order(4)", x.order(4), BAD);
        D.due("order(0)", x.order(0), -11);
        D.due("order(NONE)", x.order(NONE), 4);
        D.due("swap(0, 3)", x.swap(0, 3), 4);
        D.due("swap(1, 1)", x.swap(1, 1), 2);
        x.rack(0, 0, 6);
        D.due("an empty rack", x.order(0), 0);
        x.puts(0, 1, 3);
        x.puts(0, 4, 0);
        x.puts(0, 5, 2);
        D.due("empty places are passed over", x.order(0), 3);
        D.due("first", x.swap(0, 0), 3);
        D.due("second", x.swap(1, 1), 0);
        D.due("third", x.swap(2, 2), 2);
        x.puts(0, 2, 3);
        D.due("one twice", x.order(0), STATE);
        D.due("order as it was", x.count(1), 3);
        x.puts(0, 2, 1);
        D.due("a fixed one", x.order(0), STATE);
        x.puts(0, 2, NONE);
        D.due("well again", x.order(0), 3);
        // NONE are all parts, also when the order was less
        D.due("order(NONE) again", x.order(NONE), 4);
        int[] first = {0, 2, 3, 4};
        for (int k = 0; k < 4; k++) D.due("by number", x.swap(k, k), first[k]);
    }
}
