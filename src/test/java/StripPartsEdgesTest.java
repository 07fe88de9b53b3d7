import java.util.function.Supplier;

/** The edges that promises 1 to 8 name: a new object, feed, strip, parts, told, taken, fix, order. */
public final class StripPartsEdgesTest {
    private static final Edge E = new Edge("StripPartsEdgesTest");
    private static final int NONE = Due.NONE, BAD = Due.BAD, STATE = Due.STATE, FULL = Due.FULL;
    private static final int MIN = Integer.MIN_VALUE, MAX = Integer.MAX_VALUE;

    public static void main(String[] args) throws Exception {
        richOne();
        newObject();
        feedHowMany();
        feedBytes();
        feedRoom();
        strip();
        stripEmpties();
        partsComeAndTapeGoes();
        partsRoom();
        blanks();
        letters();
        widths();
        heights();
        figuresAndCopies();
        endsTooEarly();
        told();
        taken();
        fixNumbers();
        fixState();
        fixSide();
        fixOver();
        fixWhichFirst();
        order();
        orderRefused();
        E.end(1, 8);
    }

    /** The object on which refusals are tried has something of everything that could change. */
    private static void richOne() {
        SkylineNester x = Edge.rich();
        int[] how = {2, 2, 2, 2, 0, 2, 1, 3};
        for (int part = 0; part < 8; part++) E.is(5, "how it lies", x.told(part, 7), how[part]);
        E.is(5, "one is turned over", x.told(2, 6), 1);
        E.row(15, "there is waste", Due.waste(x), 5, 1, 1, 1);
        E.row(14, "the skyline", Due.heights(x), 4, 4, 3, 3, 3, 3);
        E.is(30, "the tape", x.count(4), 7);
        E.is(23, "a sheet tells the skyline", x.tells(0, 0), NONE);
    }

    // ---- promise 1

    private static void newObject() {
        SkylineNester x = new SkylineNester();
        E.is(1, "WIDE is 10", x.count(5), 10);
        E.is(1, "no PARTS", x.count(0), 0);
        E.is(1, "no PARTS to be told", x.told(0, 0), BAD);
        E.row(1, "THE SKYLINE is 0 at first", Due.heights(x), 0, 0, 0, 0, 0, 0, 0, 0, 0, 0);
        E.is(1, "TOP is 0: nothing", x.count(3), 0);
        E.is(1, "nothing lies", x.count(2), 0);
        E.is(1, "no WASTE", x.waste(-1, 0), 0);
        E.is(1, "THE ORDER has none at first", x.count(1), 0);
        E.is(1, "no place of THE ORDER", x.swap(0, 0), -12);
        E.is(1, "THE TAPE is empty", x.count(4), 0);
        E.is(1, "no IMAGE", x.back(), STATE);
        E.is(1, "RULE 0, WASTE is used", x.rule(1, 0), 1);
        for (int k = 0; k < 4; k++) E.is(1, "RACK " + k + " is missing at first", x.laid(k, 0), -11);
        for (int k = 0; k < 4; k++) E.is(1, "SHEET " + k + " is missing at first", x.put(k, 0, 0), -11);
    }

    // ---- promise 2

    private static void feedHowMany() {
        E.still(2, "BAD: n 0", Edge::rich, x -> x.feed(0, 1, 2, 3, 4, 5), BAD);
        E.still(2, "BAD: n 6", Edge::rich, x -> x.feed(6, 1, 2, 3, 4, 5), BAD);
        E.still(2, "BAD: n -1", Edge::rich, x -> x.feed(-1, 1, 2, 3, 4, 5), BAD);
        E.still(2, "BAD: n MIN", Edge::rich, x -> x.feed(MIN, 1, 2, 3, 4, 5), BAD);
        E.still(2, "BAD: n MAX, no room either", Edge::rich, x -> x.feed(MAX, 1, 2, 3, 4, 5), BAD);
        String items = "p1x2:";
        for (int n = 1; n <= 5; n++) {
            SkylineNester x = new SkylineNester();
            E.is(2, "n " + n + " bytes come", x.feed(n, 'p', '1', 'x', '2', ':'), n);
            E.is(2, "n " + n + ": what else was told doesn't", x.count(4), n);
            SkylineNester y = new SkylineNester();
            Due.feed(y, items.substring(0, n));
            E.is(2, "n " + n + ": they are the first", x.parts(), y.parts());
        }
        SkylineNester x = new SkylineNester();
        x.feed(2, 'p', '1', 'q', 'q', 'q');
        x.feed(2, 'x', '7', 'q', 'q', 'q');
        E.is(2, "behind THE TAPE", x.parts(), 1);
        E.is(2, "behind THE TAPE, in their order", x.told(0, 2), 7);
    }

    private static int feedOne(SkylineNester x, int n, int at, int value) {
        int[] b = {32, 32, 32, 32, 32};
        b[at] = value;
        return x.feed(n, b[0], b[1], b[2], b[3], b[4]);
    }

    private static void feedBytes() {
        for (int k = 0; k < 5; k++) {
            int at = k;
            for (int n : new int[] {1, 5}) {
                String which = (at < n ? "asked" : "not asked") + ", byte " + at + " of " + n;
                E.is(2, "0, " + which, feedOne(new SkylineNester(), n, at, 0), n);
                E.is(2, "255, " + which, feedOne(new SkylineNester(), n, at, 255), n);
                E.still(2, "BAD: -1, " + which, Edge::rich, x -> feedOne(x, n, at, -1), BAD);
                E.still(2, "BAD: 256, " + which, Edge::rich, x -> feedOne(x, n, at, 256), BAD);
                E.is(2, "BAD: MIN, " + which, feedOne(new SkylineNester(), n, at, MIN), BAD);
                E.is(2, "BAD: MAX, " + which, feedOne(new SkylineNester(), n, at, MAX), BAD);
            }
        }
    }

    private static void feedRoom() {
        for (int n = 1; n <= 5; n++) {
            int many = n;
            E.is(2, n + " bytes come to just 60", Edge.richTape(60 - n).feed(n, 32, 32, 32, 32, 32), 60);
            E.still(2, "FULL: " + n + " bytes to 61", () -> Edge.richTape(61 - many),
                x -> x.feed(many, 32, 32, 32, 32, 32), FULL);
        }
        E.still(2, "FULL: 60 are there", () -> Edge.richTape(60), x -> x.feed(5, 32, 32, 32, 32, 32), FULL);
        E.still(2, "BAD ahead of FULL: a byte", () -> Edge.richTape(60), x -> x.feed(1, 256, 0, 0, 0, 0), BAD);
        E.still(2, "BAD ahead of FULL: one not asked", () -> Edge.richTape(60), x -> x.feed(1, 0, 0, 0, 0, -1), BAD);
        E.still(2, "BAD ahead of FULL: n", () -> Edge.richTape(60), x -> x.feed(6, 0, 0, 0, 0, 0), BAD);
        SkylineNester x = Edge.richTape(60);
        x.parts();
        E.is(2, "room again when THE TAPE is empty", x.feed(5, 32, 32, 32, 32, 32), 5);
    }

    // ---- promise 3

    private static void strip() {
        E.still(3, "BAD: 0", Edge::rich, x -> x.strip(0), BAD);
        E.still(3, "BAD: 21", Edge::rich, x -> x.strip(21), BAD);
        E.still(3, "BAD: -1", Edge::rich, x -> x.strip(-1), BAD);
        E.still(3, "BAD: MIN", Edge::rich, x -> x.strip(MIN), BAD);
        E.still(3, "BAD: MAX", Edge::rich, x -> x.strip(MAX), BAD);
        SkylineNester x = new SkylineNester();
        E.is(3, "the least, how WIDE it was at first", x.strip(1), 10);
        E.is(3, "WIDE is 1", x.count(5), 1);
        E.is(3, "one SEGMENT of 1", x.sky(0, 1), 1);
        E.is(3, "the greatest, how WIDE it was", x.strip(20), 1);
        E.is(3, "WIDE is 20", x.count(5), 20);
        E.is(3, "one SEGMENT of 20", x.sky(0, 1), 20);
        E.is(3, "the same again", x.strip(20), 20);
    }

    private static void stripEmpties() {
        SkylineNester x = Edge.rich();
        E.is(3, "how WIDE it was", x.strip(6), 6);
        E.is(3, "no PARTS", x.count(0), 0);
        E.is(3, "no PARTS to be told", x.told(0, 0), BAD);
        E.is(3, "THE ORDER is empty", x.count(1), 0);
        E.is(3, "THE ORDER has no place", x.swap(0, 0), -12);
        E.is(3, "nothing lies", x.count(2), 0);
        E.is(3, "nothing FIXED either: TOP", x.count(3), 0);
        E.row(3, "it is empty", Due.heights(x), 0, 0, 0, 0, 0, 0);
        E.is(3, "no WASTE", x.waste(-1, 0), 0);
        int[] sizes = {4, 3, -11, 0};
        for (int rack = 0; rack < 4; rack++) {
            for (int i = 0; i < sizes[rack]; i++) E.is(3, "all places of RACKS are empty", x.laid(rack, i), NONE);
            int behind = sizes[rack] < 0 ? -11 : -12;
            E.is(3, "RACKS are as long as they were", x.laid(rack, Math.max(0, sizes[rack])), behind);
        }
        E.is(3, "THE TAPE stays", x.count(4), 7);
        E.is(3, "THE RULE stays", x.rule(2, 0), 4);
        E.is(3, "SHEETS stay", x.copy(0, 0, 0, 0, 6), 6);
        E.is(3, "THE IMAGE stays", x.back(), 3);
        SkylineNester y = Edge.rich("");
        y.strip(6);
        Due.parts(y, "p1x1");
        E.row(3, "new PARTS lie nowhere", Due.lies(y, 0), NONE, NONE, NONE, 0);
    }

    // ---- promise 4

    private static Supplier<SkylineNester> afterParts(String tape) {
        return () -> {
            SkylineNester x = Edge.rich(tape);
            x.parts();
            return x;
        };
    }

    private static void partsComeAndTapeGoes() {
        SkylineNester x = Edge.rich("c4x5:6");
        E.is(4, "how many there are then", x.parts(), 9);
        E.is(4, "THE TAPE is empty", x.count(4), 0);
        E.row(4, "it comes behind the others", new int[] {x.told(8, 0), x.told(8, 1), x.told(8, 2), x.told(8, 3)}, 3, 4, 5, 6);
        E.row(4, "it doesn't lie", Due.lies(x, 8), NONE, NONE, NONE, 0);
        E.is(4, "the one ahead of it stays", x.told(7, 7), 3);
        E.is(4, "THE ORDER stays", x.count(1), 4);
        Supplier<SkylineNester> emptied = () -> Edge.rich("");
        E.is(4, "a FAULT", Edge.rich("p1x1 q").parts(), -105);
        E.same(4, "THE TAPE is empty by a FAULT, no PART comes", afterParts("p1x1 q"), emptied);
        E.is(4, "no ITEM", Edge.rich("").parts(), -100);
        E.same(4, "no ITEM: nothing changes", afterParts(""), emptied);
        E.is(4, "FULL", Edge.rich("p1x1*3").parts(), FULL);
        E.same(4, "THE TAPE is empty by FULL, none comes", afterParts("p1x1*3"), emptied);
        E.same(4, "THE TAPE is empty by FULL of two ITEMS, none comes", afterParts("p1x1*2p1x1"), emptied);
        E.is(4, "a FAULT ahead of FULL", Edge.rich("p1x1*3 p").parts(), -108);
        E.same(4, "a FAULT ahead of FULL, none comes", afterParts("p1x1*3 p"), emptied);
    }

    private static void partsRoom() {
        SkylineNester x = new SkylineNester();
        E.is(4, "9 of an empty strip", Due.parts(x, "p1x1*9"), 9);
        E.is(4, "FULL: 11", Due.parts(x, "p1x1*2"), FULL);
        E.is(4, "10", Due.parts(x, "p1x1"), 10);
        E.is(4, "FULL: none has room behind 10", Due.parts(x, "p1x1"), FULL);
        E.is(4, "a FAULT of 10", Due.parts(x, "q"), -100);
        E.is(4, "nothing fed to 10", x.parts(), -100);
        E.is(4, "10 at once", Due.parts(new SkylineNester(), "p1x1*9p1x1"), 10);
        E.is(4, "FULL: 11 at once", Due.parts(new SkylineNester(), "p1x1*9p1x1*2"), FULL);
        E.is(4, "FULL: 90 at once", Due.parts(new SkylineNester(), "p1x1*9".repeat(10)), FULL);
        E.is(4, "room again by strip", new int[] {x.strip(3), Due.parts(x, "p1x1*9p1x1")}[1], 10);
    }

    private static void item(int wide, String text, String sentence, int want) {
        SkylineNester x = Due.nester(wide, "");
        E.is(4, sentence + ": \"" + text + "\" on " + wide, Due.parts(x, text), want);
        E.is(4, sentence + ": \"" + text + "\", THE TAPE", x.count(4), 0);
        E.is(4, sentence + ": \"" + text + "\", PARTS", x.count(0), Math.max(0, want));
    }

    private static void blanks() {
        item(10, " p1x1", "a blank may stand ahead", 1);
        item(10, "p1x1 ", "a blank may stand behind", 1);
        item(10, "p1x1 p1x1", "a blank may stand between", 2);
        item(10, "p1x1p1x1", "none need stand between", 2);
        item(10, "\n \np1x1\n\n  p1x1 \n", "blanks are 32 and 10", 2);
        for (int sign : new int[] {0, 9, 11, 13, 31, 33, 160, 255}) item(10, (char) sign + "p1x1", sign + " is no blank", -100);
        item(10, "p1x1\tp1x1", "9 is no blank between", -104);
        item(10, "p1x1\r", "13 is no blank behind", -104);
        item(10, "p 1x1", "not in them: behind the letter", -101);
        item(10, "p1 x1", "not in them: behind W", -102);
        item(10, "p1 0x1", "not in them: in W", -102);
        item(10, "p1x 1", "not in them: behind x", -103);
        item(10, "p1x1 :1", "not in them: ahead of :", -105);
        item(10, "p1x1: 1", "not in them: behind :", -105);
        item(10, "p1x1:1 *1", "not in them: ahead of *", -107);
        item(10, "p1x1* 1", "not in them: behind *", -105);
        item(10, "p\n1x1", "not in them: 10", -101);
        item(10, "", "one or more: nothing there", -100);
        item(10, " ", "one or more: a blank alone", -101);
        item(10, " \n ".repeat(20), "one or more: 60 blanks", -160);
        item(10, "p1x1" + " ".repeat(56), "60 bytes", 1);
        item(10, " ".repeat(56) + "p1x1", "60 bytes, the item last", 1);
        item(10, " ".repeat(59) + "p", "60 bytes, it ends too early", -160);
        item(10, " ".repeat(59) + "q", "60 bytes, the last can't stand there", -159);
    }

    private static void letters() {
        String kinds = "ptgcsh";
        for (int sign = 0; sign < 256; sign++) {
            int kind = kinds.indexOf(sign);
            if (sign == 32 || sign == 10) continue;
            item(10, (char) sign + "1x1", "letters of KINDS", kind < 0 ? -100 : 1);
            if (kind >= 0) E.is(4, "KIND of " + (char) sign, Due.nester(10, (char) sign + "1x1").told(0, 0), kind);
        }
        item(10, "p1x1q1x1", "no letter behind an item", -104);
        item(10, "1x1", "no letter", -100);
    }

    private static void widths() {
        for (int wide = 1; wide <= 20; wide++) {
            item(wide, "p" + wide + "x1", "W is WIDE", 1);
            item(wide, "p" + (wide + 1) + "x1", "W is above WIDE: its first digit", -101);
        }
        item(20, "p99x1", "W is 99", -101);
        item(20, "p0x1", "W is 0", -101);
        item(20, "p00x1", "W is 00", -101);
        item(20, "p01x1", "W is 01", 1);
        item(1, "p01x1", "W is 01 of 1", 1);
        E.is(4, "01 is 1", Due.nester(20, "p01x1").told(0, 1), 1);
        E.is(4, "20 is 20", Due.nester(20, "p20x1").told(0, 1), 20);
        E.is(4, "19 is 19", Due.nester(20, "p19x1").told(0, 1), 19);
        item(20, "p010x1", "a third digit can't stand there", -103);
        item(20, "p100x1", "a third digit, the two are a W", -103);
        item(10, "p110x1", "a third digit, the two are none: their first", -101);
        item(20, "p000x1", "a third digit, the two are 0: their first", -101);
        item(10, " p1x1 p11x1", "W is above WIDE in a later item", -107);
        item(20, "px1", "no W", -101);
        item(20, "p/x1", "one below 0 is no digit of W", -101);
        item(20, "p:x1", "one above 9 is no digit of W", -101);
        item(20, "p9x1", "9 is a digit of W", 1);
        item(20, "p1/x1", "one below 0 behind a digit of W", -102);
        item(20, "p1:x1", "one above 9 behind a digit of W", -102);
        item(20, "p-1x1", "a sign", -101);
        item(20, "p1y1", "no x", -102);
        item(20, "p1X1", "an X", -102);
        item(20, "p10w1", "no x behind two digits", -103);
    }

    private static void heights() {
        item(10, "p1x1", "H is 1", 1);
        item(10, "p1x9", "H is 9", 1);
        item(10, "p1x0", "H is 0", -103);
        item(10, "p1x/", "one below 0 is no H", -103);
        item(10, "p1x:", "one above 9 is no H", -103);
        item(10, "p1x10", "H is one digit", -104);
        item(10, "p1x01", "H is 01", -103);
        for (int h = 1; h <= 9; h++) E.is(4, "H", Due.nester(5, "p1x" + h).told(0, 2), h);
    }

    private static void figuresAndCopies() {
        for (int n = 1; n <= 9; n++) {
            E.is(4, "FIGURE is " + n, Due.nester(5, "p1x1:" + n).told(0, 3), n);
            item(5, "p1x1*" + n, "how many", n);
            item(5, "p1x1:3*" + n, "how many behind FIGURE", n);
        }
        E.is(4, "FIGURE is 1 if not told", Due.nester(5, "p1x1").told(0, 3), 1);
        E.is(4, "FIGURE is 1 if only * is told", Due.nester(5, "p1x1*2").told(1, 3), 1);
        E.is(4, "all have the FIGURE", Due.nester(5, "p1x1:7*2").told(1, 3), 7);
        item(5, "p1x1:0", "FIGURE 0", -105);
        item(5, "p1x1:/", "FIGURE: one below 0", -105);
        item(5, "p1x1::", "FIGURE: one above 9", -105);
        item(5, "p1x1:10", "FIGURE is one digit", -106);
        item(5, "p1x1*0", "how many: 0", -105);
        item(5, "p1x1*/", "how many: one below 0", -105);
        item(5, "p1x1*:", "how many: one above 9", -105);
        item(5, "p1x1*10", "how many is one digit", -106);
        item(5, "p1x1*1:1", "* stands behind FIGURE", -106);
        item(5, "p1x1:1:1", "FIGURE but once", -106);
        item(5, "p1x1*1*1", "how many but once", -106);
        item(5, "p1x1:1*0", "how many: 0, behind FIGURE", -107);
        item(5, "p1x1;1", "no : nor *", -104);
        item(5, "p1x1+1", "no : nor * either", -104);
    }

    private static void endsTooEarly() {
        String whole = "p10x1:1*1";
        int[] want = {-100, -101, 0, -103, -104, 1, -106, 1, -108, 1};
        for (int size = 0; size <= whole.length(); size++) {
            if (size != 2) item(10, whole.substring(0, size), "the text ends too early: its size", want[size]);
        }
        item(10, "p1", "the text ends behind a digit of W", -102);
        item(10, "p1x1 p", "the text ends too early in a later item", -106);
        item(10, "p1x1*", "the text ends behind *", -105);
        item(10, "p11", "the text ends behind a W that can't be: its first digit", -101);
        item(10, "p0", "the text ends behind a W of 0: its first digit", -101);
    }

    // ---- promise 5

    private static void told() {
        for (int what = 0; what < 8; what++) {
            int asked = what;
            E.still(5, "BAD: part -1", Edge::rich, x -> x.told(-1, asked), BAD);
            E.still(5, "BAD: one behind the last part", Edge::rich, x -> x.told(8, asked), BAD);
            E.is(5, "BAD: no PARTS", new SkylineNester().told(0, what), BAD);
        }
        E.still(5, "BAD: part MIN", Edge::rich, x -> x.told(MIN, 0), BAD);
        E.still(5, "BAD: part MAX", Edge::rich, x -> x.told(MAX, 0), BAD);
        E.still(5, "BAD: what -1", Edge::rich, x -> x.told(0, -1), BAD);
        E.still(5, "BAD: what 8", Edge::rich, x -> x.told(0, 8), BAD);
        E.still(5, "BAD: what MIN", Edge::rich, x -> x.told(0, MIN), BAD);
        E.still(5, "BAD: what MAX", Edge::rich, x -> x.told(0, MAX), BAD);
        int[][] want = {{0, 2, 3, 1, 0, 0, 0, 2}, {1, 1, 2, 2, 0, 3, 1, 2}, {4, 1, 1, 2, NONE, NONE, NONE, 0},
            {0, 1, 1, 1, 5, 9, 0, 1}, {0, 1, 1, 1, 5, 0, 0, 3}};
        int[] parts = {0, 2, 4, 6, 7};
        for (int k = 0; k < parts.length; k++) {
            for (int what = 0; what < 8; what++) {
                int part = parts[k];
                int asked = what;
                E.still(5, "part " + part + ", what " + what, Edge::rich, x -> x.told(part, asked), want[k][what]);
            }
        }
        SkylineNester x = Due.nester(3, "p1x1*9p1x1:2");
        E.is(5, "the last of 10", x.told(9, 3), 2);
        E.is(5, "BAD: the 11th", x.told(10, 3), BAD);
    }

    // ---- promise 6

    private static void taken() {
        E.still(6, "BAD: part -1", Edge::rich, x -> x.taken(-1, 0), BAD);
        E.still(6, "BAD: one behind the last part", Edge::rich, x -> x.taken(8, 0), BAD);
        E.still(6, "BAD: k -1", Edge::rich, x -> x.taken(0, -1), BAD);
        E.still(6, "BAD: k 6", Edge::rich, x -> x.taken(0, 6), BAD);
        E.still(6, "BAD: k MIN", Edge::rich, x -> x.taken(0, MIN), BAD);
        E.still(6, "BAD: k MAX", Edge::rich, x -> x.taken(0, MAX), BAD);
        E.is(6, "BAD: no PARTS", new SkylineNester().taken(0, 0), BAD);
        // 2 is TURNING under PLAIN and lies turned over: 1 x 2 as it is
        E.still(6, "its own KIND, as it is", Edge::rich, x -> x.taken(2, 1), 2);
        E.still(6, "one under that", Edge::rich, x -> x.taken(2, 0), 2);
        E.still(6, "-13: one over that", Edge::rich, x -> x.taken(0, 1), -13);
        E.still(6, "-13: one beside that", Edge::rich, x -> x.taken(2, 2), -13);
        boolean[][] under = {{true, false, false, false, false, false}, {true, true, false, false, false, false},
            {true, false, true, false, false, false}, {true, true, false, true, false, false},
            {true, false, true, false, true, false}, {true, false, false, false, false, true}};
        String letters = "ptgcsh";
        for (int kind = 0; kind < 6; kind++) {
            SkylineNester x = Due.nester(9, letters.charAt(kind) + "3x2");
            for (int k = 0; k < 6; k++) {
                int area = kind == 3 ? 9 : 6;
                E.is(6, "KIND " + kind + " taken for " + k, x.taken(0, k), under[kind][k] ? area : -13);
            }
        }
        E.is(6, "the greatest area", Due.nester(20, "c20x9").taken(0, 3), 200);
        E.is(6, "the least area", Due.nester(20, "h1x1").taken(0, 5), 1);
        SkylineNester x = Due.nester(2, "c1x2");
        x.rule(2, 1);
        x.lay(0);
        E.is(6, "it lies turned over", x.told(0, 6), 1);
        E.is(6, "the area as it is", x.taken(0, 3), 3);
    }

    // ---- promise 7

    private static void fixNumbers() {
        E.still(7, "BAD: part -1", Edge::cleared, x -> x.fix(-1, 0, 20), BAD);
        E.still(7, "BAD: one behind the last part", Edge::cleared, x -> x.fix(8, 0, 20), BAD);
        E.still(7, "BAD: one behind the last part, x NONE", Edge::cleared, x -> x.fix(8, NONE, 0), BAD);
        E.still(7, "BAD: x -2", Edge::cleared, x -> x.fix(4, -2, 20), BAD);
        E.still(7, "BAD: x 20", Edge::cleared, x -> x.fix(4, 20, 20), BAD);
        E.still(7, "BAD: x MIN", Edge::cleared, x -> x.fix(4, MIN, 20), BAD);
        E.still(7, "BAD: x MAX", Edge::cleared, x -> x.fix(4, MAX, 20), BAD);
        E.still(7, "BAD: y -1", Edge::cleared, x -> x.fix(4, 0, -1), BAD);
        E.still(7, "BAD: y 61", Edge::cleared, x -> x.fix(4, 0, 61), BAD);
        E.still(7, "BAD: y MIN", Edge::cleared, x -> x.fix(4, 0, MIN), BAD);
        E.still(7, "BAD: y MAX", Edge::cleared, x -> x.fix(4, 0, MAX), BAD);
        int[][] places = {{0, 0}, {19, 0}, {0, 60}, {19, 60}};
        for (int[] at : places) {
            SkylineNester x = Due.nester(20, "h1x1");
            E.is(7, "x and y at their ends", x.fix(0, at[0], at[1]), 1);
            E.row(7, "x and y at their ends", Due.lies(x, 0), at[0], at[1], 0, 1);
        }
        for (int y : new int[] {-1, 61, MIN, MAX}) {
            SkylineNester x = Edge.cleared();
            E.is(7, "x NONE: y doesn't matter", x.fix(6, NONE, y), 1);
            E.row(7, "it is FIXED no more", Due.lies(x, 6), NONE, NONE, NONE, 0);
        }
        E.is(7, "BAD: no PARTS", new SkylineNester().fix(0, 0, 0), BAD);
    }

    private static void fixState() {
        E.still(7, "STATE: something lies that isn't FIXED", Edge::rich, x -> x.fix(4, 0, 20), STATE);
        E.still(7, "STATE: that itself lies", Edge::rich, x -> x.fix(7, 0, 20), STATE);
        E.still(7, "STATE: something lies, x NONE", Edge::rich, x -> x.fix(6, NONE, 0), STATE);
        E.still(7, "STATE: it is in THE ORDER", Edge::cleared, x -> x.fix(5, 0, 20), STATE);
        E.still(7, "STATE: it is the first of THE ORDER", Edge::cleared, x -> x.fix(0, 0, 20), STATE);
        E.still(7, "STATE: it is in THE ORDER, x NONE", Edge::cleared, x -> x.fix(5, NONE, 0), STATE);
        E.still(7, "STATE: it is FIXED", Edge::cleared, x -> x.fix(6, 0, 20), STATE);
        E.still(7, "STATE: it is FIXED just there", Edge::cleared, x -> x.fix(6, 5, 9), STATE);
        E.still(7, "STATE: it isn't FIXED", Edge::cleared, x -> x.fix(4, NONE, 0), STATE);
        SkylineNester x = Edge.cleared();
        E.is(7, "what isn't in THE ORDER may be FIXED", x.fix(4, 0, 20), 1);
        E.is(7, "FIXED ones that lie do no harm", x.fix(2, 0, 30), 1);
        E.is(7, "the skyline stays", x.sky(0, 2), 0);
        // one that was laid, and lies no more
        SkylineNester y = Due.nester(4, "p1x1*2");
        y.lay(0);
        E.is(7, "STATE: one lies on the skyline", y.fix(1, 0, 9), STATE);
        y.lay(NONE);
        E.is(7, "none lies any more", y.fix(1, 0, 9), 1);
    }

    private static void fixSide() {
        for (int w = 1; w <= 6; w++) {
            int last = 6 - w;
            String items = "p" + w + "x1";
            E.is(7, "W " + w + " ends at the strip's side", Due.nester(6, items).fix(0, last, 0), 1);
            E.still(7, "-12: W " + w + " ends beyond the strip's side", () -> Due.nester(6, items),
                x -> x.fix(0, last + 1, 0), -12);
            E.is(7, "-12: x 19", Due.nester(6, items).fix(0, 19, 0), -12);
        }
        E.still(7, "-12: one beyond, on 20", () -> Due.nester(20, "p2x1"), x -> x.fix(0, 19, 0), -12);
        // t9x1 would be 1 wide if it were turned over: it lies as it is
        E.is(7, "-12: as it is", Due.nester(9, "t9x1").fix(0, 8, 0), -12);
        E.is(7, "it may be higher than the strip is wide", Due.nester(1, "p1x9").fix(0, 0, 60), 1);
        String[] anyKind = {"g1x1:2", "s1x1:2", "h1x1", "c1x1"};
        for (String items : anyKind) {
            SkylineNester x = Due.nester(4, items);
            E.is(7, "FIXED PARTS lie where they are told: " + items, x.fix(0, 3, 5), 1);
            E.row(7, "they don't change THE SKYLINE: " + items, Due.heights(x), 0, 0, 0, 0);
        }
    }

    /** One FIXED at 2, 2, with so many columns and heights; where one of 1 x 1 would lie over it. */
    private static void over(String fixed, int wide, int high) {
        for (int x = 0; x < 6; x++) {
            for (int y = 0; y < 8; y++) {
                boolean over = x >= 2 && x < 2 + wide && y >= 2 && y < 2 + high;
                SkylineNester n = Due.nester(6, fixed + " p1x1");
                n.fix(0, 2, 2);
                E.is(7, "over " + fixed + " at " + x + ", " + y, n.fix(1, x, y), over ? -15 : 1);
                E.is(7, "over " + fixed + ": how it lies", n.told(1, 7), over ? 0 : 1);
            }
        }
    }

    private static void fixOver() {
        over("p2x3", 2, 3);
        over("c2x2", 2, 3);
        over("t3x1", 3, 1);
        E.still(7, "-15: it changes nothing", Edge::cleared, x -> x.fix(7, 5, 9), -15);
        SkylineNester x = Due.nester(6, "p1x1 c1x1 p6x9");
        x.fix(0, 3, 3);
        E.is(7, "-15: a CLEAR one's height above", x.fix(1, 3, 2), -15);
        E.is(7, "a CLEAR one just below", x.fix(1, 3, 1), 1);
        E.is(7, "-15: one that is larger all round", x.fix(2, 0, 0), -15);
        E.is(7, "just above", x.fix(2, 0, 4), 1);
    }

    private static void fixWhichFirst() {
        E.still(7, "BAD ahead of STATE: x, something lies", Edge::rich, x -> x.fix(4, 20, 0), BAD);
        E.still(7, "BAD ahead of STATE: y, it is in THE ORDER", Edge::cleared, x -> x.fix(0, 0, 61), BAD);
        E.still(7, "BAD ahead of STATE: y, it is FIXED", Edge::cleared, x -> x.fix(6, 0, -1), BAD);
        E.still(7, "BAD ahead of -12: y", Edge::cleared, x -> x.fix(4, 6, 61), BAD);
        E.still(7, "BAD ahead of -12: x is no number of any strip", Edge::cleared, x -> x.fix(4, 20, 0), BAD);
        E.still(7, "STATE ahead of -12: something lies", Edge::rich, x -> x.fix(4, 6, 0), STATE);
        E.still(7, "STATE ahead of -12: it is in THE ORDER", Edge::cleared, x -> x.fix(0, 5, 0), STATE);
        E.still(7, "STATE ahead of -12: it is FIXED", Edge::cleared, x -> x.fix(6, 6, 0), STATE);
        E.still(7, "STATE ahead of -15: something lies", Edge::rich, x -> x.fix(4, 5, 9), STATE);
        E.still(7, "STATE ahead of -15: it is in THE ORDER", Edge::cleared, x -> x.fix(0, 4, 8), STATE);
        // 2 wide at 5 would be beyond the side of 6, and over the one at 5
        SkylineNester x = Due.nester(6, "p2x1 p1x1");
        x.fix(1, 5, 9);
        E.is(7, "-12 ahead of -15", x.fix(0, 5, 9), -12);
    }

    // ---- promise 8

    private static int[] orderOf(SkylineNester x) {
        int[] row = new int[x.count(1)];
        for (int i = 0; i < row.length; i++) row[i] = x.swap(i, i);
        return row;
    }

    private static void order() {
        SkylineNester none = new SkylineNester();
        E.is(8, "NONE of no PARTS", none.order(NONE), 0);
        SkylineNester x = Edge.rich();
        E.is(8, "NONE: all that aren't FIXED", x.order(NONE), 7);
        E.row(8, "by number", orderOf(x), 0, 1, 2, 3, 4, 5, 7);
        E.is(8, "what lies stays", x.count(2), 7);
        SkylineNester fixed = Due.nester(4, "p1x1");
        fixed.fix(0, 0, 0);
        E.is(8, "NONE: all are FIXED", fixed.order(NONE), 0);
        SkylineNester ten = Due.nester(4, "p1x1*9 p1x1");
        E.is(8, "NONE: 10", ten.order(NONE), 10);
        SkylineNester y = Edge.rich();
        E.is(8, "a RACK of 0 places", y.order(3), 0);
        E.is(8, "THE ORDER is empty", y.count(1), 0);
        E.is(8, "a RACK with empty places", y.order(1), 1);
        E.row(8, "place by place", orderOf(y), 2);
        y.rack(2, 0, 10);
        E.is(8, "a RACK with nothing in it", y.order(2), 0);
        int[] turns = {7, 5, 4, 3, 2, 1, 0};
        for (int k = 0; k < 7; k++) y.puts(2, k < 3 ? k : k + 3, turns[k]);
        E.is(8, "a RACK of 10 places", y.order(2), 7);
        E.row(8, "place by place", orderOf(y), 7, 5, 4, 3, 2, 1, 0);
        y.puts(2, 0, 0);
        y.puts(2, 9, NONE);
        E.row(8, "THE ORDER is its own: a RACK's change doesn't change it", orderOf(y), 7, 5, 4, 3, 2, 1, 0);
        SkylineNester all = Due.nester(4, "p1x1*9 p1x1");
        all.rack(0, 0, 10);
        for (int i = 0; i < 10; i++) all.puts(0, i, 9 - i);
        E.is(8, "a full RACK of 10", all.order(0), 10);
        E.row(8, "a full RACK of 10", orderOf(all), 9, 8, 7, 6, 5, 4, 3, 2, 1, 0);
    }

    private static void orderRefused() {
        E.still(8, "BAD: -2", Edge::rich, x -> x.order(-2), BAD);
        E.still(8, "BAD: 4", Edge::rich, x -> x.order(4), BAD);
        E.still(8, "BAD: MIN", Edge::rich, x -> x.order(MIN), BAD);
        E.still(8, "BAD: MAX", Edge::rich, x -> x.order(MAX), BAD);
        E.still(8, "-11: it is missing", Edge::rich, x -> x.order(2), -11);
        for (int k = 0; k < 4; k++) E.is(8, "-11: RACK " + k + " is missing at first", new SkylineNester().order(k), -11);
        E.still(8, "STATE: a FIXED one at the last place", Edge::rich, x -> x.order(0), STATE);
        Supplier<SkylineNester> first = () -> {
            SkylineNester x = Edge.rich();
            x.puts(0, 0, 6);
            x.puts(0, 3, NONE);
            return x;
        };
        E.still(8, "STATE: a FIXED one at the first place", first, x -> x.order(0), STATE);
        Supplier<SkylineNester> twice = () -> {
            SkylineNester x = Edge.rich();
            x.puts(0, 3, 0);
            return x;
        };
        E.still(8, "STATE: one twice, the first and the last", twice, x -> x.order(0), STATE);
        Supplier<SkylineNester> side = () -> {
            SkylineNester x = Edge.rich();
            x.puts(0, 3, 3);
            return x;
        };
        E.still(8, "STATE: one twice, side by side", side, x -> x.order(0), STATE);
        SkylineNester x = Edge.rich();
        x.puts(0, 3, NONE);
        E.is(8, "nothing twice is none twice", x.order(0), 2);
        // a FIXED one comes into no ORDER; FIXED no more it may
        SkylineNester y = Edge.cleared();
        E.is(8, "STATE: while it is FIXED", y.order(0), STATE);
        y.fix(6, NONE, 0);
        E.is(8, "it is FIXED no more", y.order(0), 3);
    }
}
