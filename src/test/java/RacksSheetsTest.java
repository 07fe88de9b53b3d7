/** Promises 24 to 33: rack, puts, moved, laid, image, back, count, sheet, put, copy. */
public final class RacksSheetsTest {
    private static final Due D = new Due("RacksSheetsTest");
    private static final int NONE = Due.NONE, BAD = Due.BAD, STATE = Due.STATE;
    private static final int MIN = Integer.MIN_VALUE, MAX = Integer.MAX_VALUE;

    public static void main(String[] args) {
        rack();
        puts();
        moved();
        movedWithin();
        laid();
        image();
        imageKeeps();
        count();
        countOrders();
        sheet();
        put();
        copy();
        D.end();
    }

    private static void rack() {
        SkylineNester x = Due.nester(5, "p1x1");
        D.due("rack(-1, 0, 1)", x.rack(-1, 0, 1), BAD);
        D.due("rack(4, 0, 1)", x.rack(4, 0, 1), BAD);
        D.due("rack(0, -1, 1)", x.rack(0, -1, 1), BAD);
        D.due("rack(0, 6, 1)", x.rack(0, 6, 1), BAD);
        D.due("rack(0, 0, 11)", x.rack(0, 0, 11), BAD);
        D.due("rack(0, 0, -1)", x.rack(0, 0, -1), -14);
        D.due("rack(0, 0, MIN)", x.rack(0, 0, MIN), -14);
        D.due("rack(4, 0, -1): BAD ahead of -14", x.rack(4, 0, -1), BAD);
        D.due("still missing", x.laid(0, 0), -11);
        D.due("rack(0, 0, 0)", x.rack(0, 0, 0), 1);
        D.due("no places", x.laid(0, 0), -12);
        D.due("rack(3, 0, 10)", x.rack(3, 0, 10), 1);
        D.due("the last place", x.laid(3, 9), NONE);
        x.puts(3, 9, 0);
        D.due("a rack anew", x.rack(3, 5, 10), 1);
        D.due("is empty", x.laid(3, 9), NONE);
        D.due("is made for another kind", x.puts(3, 9, 0), -16);
        D.due("-14 leaves it", x.rack(3, 0, -5), -14);
        D.due("its size", x.puts(3, 9, NONE), 1);
    }

    private static void puts() {
        SkylineNester x = Due.nester(5, "p1x1 t1x1 g1x1 c1x1 s1x1 h1x1");
        D.due("puts(-1, 0, 0)", x.puts(-1, 0, 0), BAD);
        D.due("puts(4, 0, 0)", x.puts(4, 0, 0), BAD);
        D.due("puts(0, 0, 6): BAD ahead of -11", x.puts(0, 0, 6), BAD);
        D.due("puts(0, 0, -2)", x.puts(0, 0, -2), BAD);
        D.due("puts(0, 0, 0)", x.puts(0, 0, 0), -11);
        String[] takes = {"111111", "010100", "001010", "000100", "000010", "000001"};
        for (int kind = 0; kind < 6; kind++) {
            x.rack(1, kind, 1);
            for (int part = 0; part < 6; part++) {
                int want = takes[kind].charAt(part) == '1' ? 1 : -16;
                D.due("a rack for " + kind + " takes " + part, x.puts(1, 0, part), want);
            }
            D.due("nothing fits all", x.puts(1, 0, NONE), 1);
        }
        x.rack(2, 1, 3);
        D.due("puts(2, -1, 0): -12 ahead of -16", x.puts(2, -1, 0), -12);
        D.due("puts(2, 3, 1)", x.puts(2, 3, 1), -12);
        D.due("puts(2, 3, NONE)", x.puts(2, 3, NONE), -12);
        D.due("puts(2, 2, 3)", x.puts(2, 2, 3), 1);
        D.due("puts(2, 2, 0)", x.puts(2, 2, 0), -16);
        D.due("it stays", x.laid(2, 2), 3);
        D.due("one twice in a rack", x.puts(2, 1, 3), 1);
        D.due("puts(2, 2, NONE)", x.puts(2, 2, NONE), 1);
        D.due("it is gone", x.laid(2, 2), NONE);
    }

    private static int[] places(SkylineNester x, int rack, int size) {
        int[] row = new int[size];
        for (int i = 0; i < size; i++) row[i] = x.laid(rack, i);
        return row;
    }

    private static void moved() {
        SkylineNester x = Due.nester(5, "p1x1 t1x1 c1x1 c2x2");
        D.due("moved(-1, 0, 0, 0, 0)", x.moved(-1, 0, 0, 0, 0), BAD);
        D.due("moved(0, 0, 4, 0, 0)", x.moved(0, 0, 4, 0, 0), BAD);
        D.due("moved(0, 0, 1, 0, 0)", x.moved(0, 0, 1, 0, 0), -11);
        x.rack(0, 0, 5);
        D.due("the other is missing", x.moved(0, 0, 1, 0, -1), -11);
        D.due("the one is missing", x.moved(1, 0, 0, 0, 9), -11);
        x.rack(1, 1, 4);
        int[] put = {1, 3, NONE, 0, 2};
        for (int i = 0; i < 5; i++) x.puts(0, i, put[i]);
        D.due("n below 0", x.moved(0, 0, 1, 0, -1), -12);
        D.due("n is MIN", x.moved(0, 0, 1, 0, MIN), -12);
        D.due("i below 0", x.moved(0, -1, 1, 0, 1), -12);
        D.due("j below 0", x.moved(0, 0, 1, -1, 1), -12);
        D.due("i and n too far", x.moved(0, 3, 1, 0, 3), -12);
        D.due("j and n too far", x.moved(0, 0, 1, 2, 3), -12);
        D.due("i wraps around", x.moved(0, MAX, 1, 0, 1), -12);
        D.due("j wraps around", x.moved(0, 1, 1, MAX, 1), -12);
        D.due("n wraps around", x.moved(0, 1, 1, 1, MAX), -12);
        D.due("i behind the end, n 0", x.moved(0, 6, 1, 0, 0), -12);
        D.due("at the ends, n 0", x.moved(0, 5, 1, 4, 0), 0);
        D.due("until one that it isn't made for", x.moved(0, 0, 1, 0, 4), 3);
        D.dueRow("what came", places(x, 1, 4), 1, 3, NONE, NONE);
        D.dueRow("what was there stays", places(x, 0, 5), 1, 3, NONE, 0, 2);
        D.due("nothing comes", x.moved(0, 3, 1, 0, 2), 0);
        D.dueRow("nothing came", places(x, 1, 4), 1, 3, NONE, NONE);
        D.due("nothing there empties a place", x.moved(0, 2, 1, 1, 1), 1);
        D.due("the last one", x.moved(0, 4, 1, 3, 1), 1);
        D.dueRow("places between stay", places(x, 1, 4), 1, NONE, NONE, 2);
        D.due("into one for all", x.moved(1, 0, 0, 1, 4), 4);
        D.dueRow("all came", places(x, 0, 5), 1, 1, NONE, NONE, 2);
    }

    private static void movedWithin() {
        SkylineNester x = Due.nester(5, "p1x1*5");
        for (int way = 0; way < 2; way++) {
            x.rack(0, 0, 5);
            for (int i = 0; i < 5; i++) x.puts(0, i, i);
            D.due("within", x.moved(0, way, 0, 1 - way, 4), 4);
            if (way == 0) D.dueRow("to the right", places(x, 0, 5), 0, 0, 1, 2, 3);
            if (way == 1) D.dueRow("to the left", places(x, 0, 5), 1, 2, 3, 4, 4);
        }
    }

    private static void laid() {
        SkylineNester x = Due.nester(5, "p1x1*3");
        D.due("laid(-1, 0)", x.laid(-1, 0), BAD);
        D.due("laid(4, 0)", x.laid(4, 0), BAD);
        D.due("laid(2, 0)", x.laid(2, 0), -11);
        x.rack(2, 0, 2);
        x.puts(2, 1, 2);
        D.due("laid(2, 0)", x.laid(2, 0), NONE);
        D.due("laid(2, 1)", x.laid(2, 1), 2);
        D.due("laid(2, 2)", x.laid(2, 2), -12);
        D.due("laid(2, -1)", x.laid(2, -1), -12);
    }

    private static void image() {
        SkylineNester x = new SkylineNester();
        D.due("no image", x.back(), STATE);
        D.due("image of nothing", x.image(), 0);
        Due.parts(x, "p1x1*3");
        D.due("back to nothing", x.back(), 0);
        D.due("parts are gone", x.count(0), 0);
        Due.parts(x, "p2x1*4");
        D.due("image", x.image(), 4);
        x.strip(3);
        D.due("back", x.back(), 4);
        D.due("back again", x.back(), 4);
        D.due("wide", x.count(5), 10);
        D.due("W", x.told(3, 1), 2);
    }

    private static void imageKeeps() {
        SkylineNester x = Due.nester(6, "p1x2 p6x1 t1x4:3 c1x1 p1x1");
        x.fix(4, 5, 9);
        Due.order(x, 0, 2, 0, 1);
        x.rule(3, 0);
        x.lay(0);
        x.lay(1);
        x.rule(2, 1);
        x.lay(2);
        int[] heights = Due.heights(x);
        int[] waste = Due.waste(x);
        int[] lies = Due.lies(x, 2);
        Due.tell(x, 1, 1, 7, 8);
        D.due("image", x.image(), 5);
        x.rule(0, 0);
        x.strip(20);
        Due.parts(x, "h9x9*3");
        x.order(NONE);
        x.run();
        x.rack(2, 5, 3);
        x.puts(2, 1, 2);
        x.put(1, 0, 6);
        x.sheet(3, 0, 4);
        Due.feed(x, "p1");
        D.due("back", x.back(), 5);
        D.dueRow("skyline", Due.heights(x), heights);
        D.dueRow("waste", Due.waste(x), waste);
        D.due("there is some", waste.length > 0 ? 1 : 0, 1);
        D.dueRow("how one lies", Due.lies(x, 2), lies);
        D.dueRow("how a fixed one lies", Due.lies(x, 4), 5, 9, 0, 1);
        D.dueRow("how one doesn't", Due.lies(x, 3), NONE, NONE, NONE, 0);
        D.due("figure", x.told(2, 3), 3);
        D.due("kind", x.told(3, 0), 3);
        D.due("top", x.count(3), 10);
        int[] order = {2, 0, 1};
        D.due("order", x.count(1), 3);
        for (int k = 0; k < 3; k++) D.due("order " + k, x.swap(k, k), order[k]);
        D.due("rule", x.rule(0, 1), 5);
        D.due("tape stays", x.count(4), 2);
        D.due("racks' places are empty", x.laid(2, 1), NONE);
        D.due("racks' places are empty", x.laid(0, 0), NONE);
        D.due("racks stay", x.laid(2, 3), -12);
        D.due("racks' kinds stay", x.puts(2, 0, 0), -16);
        D.due("sheets stay", x.copy(3, 0, 3, 0, 4), 4);
        // the image is a copy: what comes later doesn't change it
        x.lay(NONE);
        x.swap(0, 2);
        x.fix(4, NONE, 0);
        x.rule(0, 1);
        x.lay(2);
        x.lay(4);
        x.lay(0);
        x.lay(1);
        D.dueRow("another skyline", Due.heights(x), 5, 5, 5, 5, 5, 5);
        D.dueRow("another waste", Due.waste(x), 3, 0, 3, 4, 1, 1, 1, 3, 2, 2, 1, 2);
        D.dueRow("it lies as it is", Due.lies(x, 2), 0, 0, 0, 2);
        x.back();
        D.dueRow("skyline again", Due.heights(x), heights);
        D.dueRow("waste again", Due.waste(x), waste);
        D.due("order again", x.swap(0, 0), 2);
        D.dueRow("how one lies again", Due.lies(x, 2), lies);
        D.due("it was turned over", lies[2], 1);
        D.dueRow("fixed again", Due.lies(x, 4), 5, 9, 0, 1);
        x.lay(3);
        D.due("a later image", x.image(), 5);
        x.strip(1);
        x.back();
        D.due("of these", x.told(3, 7) != 0 ? 1 : 0, 1);
    }

    private static void count() {
        SkylineNester x = Due.nester(8, "p2x2 p2x2 t2x2 p2x2:1 p2x2:2 p2x3 p3x2");
        D.due("count(-1)", x.count(-1), BAD);
        D.due("count(8)", x.count(8), BAD);
        D.due("parts", x.count(0), 7);
        D.due("unlike", x.count(6), 5);
        D.due("order", x.count(1), 0);
        x.fix(6, 0, 3);
        D.due("lying: fixed ones, too", x.count(2), 1);
        D.due("top: of fixed ones, too", x.count(3), 5);
        x.order(NONE);
        D.due("order", x.count(1), 6);
        x.run();
        D.due("lying: laid ones as well", x.count(2), 7);
        D.due("top of both", x.count(3), 5);
        x.order(NONE);
        x.lay(NONE);
        x.fix(6, NONE, 0);
        x.lay(5);
        D.due("top of the skyline alone", x.count(3), 3);
        x.run();
        D.due("unlike: those that lie as well", x.count(6), 5);
        D.due("lying: no fixed one any more", x.count(2), 6);
        Due.feed(x, "1234567");
        D.due("tape", x.count(4), 7);
        D.due("wide", x.count(5), 8);
    }

    private static void countOrders() {
        SkylineNester x = Due.nester(8, "p2x2*3 t2x2*2 p2x2:2 p2x1");
        D.due("of none", x.count(7), 1);
        x.order(NONE);
        D.due("7! by 3! and 2!", x.count(7), 420);
        Due.order(x, 0, 0, 3, 1, 4, 2);
        D.due("5! by 3! and 2!", x.count(7), 10);
        Due.order(x, 0, 6, 5);
        D.due("2!", x.count(7), 2);
        SkylineNester y = Due.nester(8, "p1x1 p1x2 p1x3 p1x4 p1x5 p1x6 p1x7 p1x8 p1x9 p2x1");
        y.order(NONE);
        D.due("10!", y.count(7), 3628800);
    }

    private static void sheet() {
        SkylineNester x = new SkylineNester();
        D.due("sheet(-1, 0, 1)", x.sheet(-1, 0, 1), BAD);
        D.due("sheet(4, 0, 1)", x.sheet(4, 0, 1), BAD);
        D.due("sheet(0, -2, 1)", x.sheet(0, -2, 1), BAD);
        D.due("sheet(0, 2, 1)", x.sheet(0, 2, 1), BAD);
        D.due("sheet(0, 0, 41)", x.sheet(0, 0, 41), BAD);
        D.due("sheet(0, 1, -1)", x.sheet(0, 1, -1), -14);
        D.due("sheet(4, 1, -1): BAD ahead of -14", x.sheet(4, 1, -1), BAD);
        D.due("still missing", x.put(0, 0, 0), -11);
        D.due("sheet(0, 1, 0)", x.sheet(0, 1, 0), 1);
        D.due("no items", x.put(0, 0, 0), -12);
        D.due("sheet(0, 1, 40)", x.sheet(0, 1, 40), 1);
        D.due("the last item", x.put(0, 39, 5), 1);
        D.due("the item behind it", x.put(0, 40, 5), -12);
        D.due("sheet(0, -1, 99)", x.sheet(0, -1, 99), 1);
        D.due("missing again", x.put(0, 0, 0), -11);
        D.due("sheet(1, -1, -9)", x.sheet(1, -1, -9), 1);
        // all 0: that is what an empty skyline tells
        SkylineNester y = Due.nester(3, "p1x1");
        Due.tell(y, 2, 1, 5, 5, 5);
        y.sheet(2, 1, 3);
        D.due("all 0", y.tells(2, 0), NONE);
    }

    private static void put() {
        SkylineNester x = Due.nester(2, "p1x3 p1x2");
        D.due("put(-1, 0, 0)", x.put(-1, 0, 0), BAD);
        D.due("put(4, 0, 0)", x.put(4, 0, 0), BAD);
        D.due("put(0, 0, 0)", x.put(0, 0, 0), -11);
        x.sheet(0, 0, 2);
        D.due("put(0, -1, 0)", x.put(0, -1, 0), -12);
        D.due("put(0, 2, 0)", x.put(0, 2, 0), -12);
        D.due("put(0, MAX, 0)", x.put(0, MAX, 0), -12);
        x.lay(0);
        x.lay(1);
        D.due("put(0, 0, 3)", x.put(0, 0, 3), 1);
        D.due("put(0, 1, 2 and more)", x.put(0, 1, 0x7FFF0002), 1);
        D.due("the lowest 16 bits", x.tells(0, 0), NONE);
        x.put(0, 1, -2);
        D.due("below 0", x.tells(0, 0), 1);
        x.sheet(1, 1, 2);
        x.put(1, 0, 3);
        x.put(1, 1, 0x7FFF0002);
        D.due("an int keeps all bits", x.tells(1, 0), 1);
    }

    private static void copy() {
        SkylineNester x = Due.nester(5, "g1x1:1 g1x2:1 g1x3:1 g1x4:1 g1x5:1");
        for (int k = 0; k < 5; k++) x.lay(k);
        D.due("copy(-1, 0, 0, 0, 0)", x.copy(-1, 0, 0, 0, 0), BAD);
        D.due("copy(0, 0, 4, 0, 0)", x.copy(0, 0, 4, 0, 0), BAD);
        D.due("copy(0, 0, 1, 0, 0)", x.copy(0, 0, 1, 0, 0), -11);
        Due.tell(x, 0, 1, 1, 2, 3, 4);
        D.due("the other is missing", x.copy(0, 0, 1, 0, -1), -11);
        D.due("the one is missing", x.copy(1, 0, 0, 0, 1), -11);
        x.sheet(1, 0, 5);
        D.due("-13 ahead of -12", x.copy(0, 0, 1, 0, -1), -13);
        x.sheet(1, 1, 5);
        D.due("n below 0", x.copy(0, 0, 1, 0, -1), -12);
        D.due("i below 0", x.copy(0, -1, 1, 0, 1), -12);
        D.due("j below 0", x.copy(0, 0, 1, -1, 1), -12);
        D.due("i too far", x.copy(0, 1, 1, 0, 4), -12);
        D.due("j too far", x.copy(0, 0, 1, 2, 4), -12);
        D.due("i wraps around", x.copy(0, MAX, 1, 0, 1), -12);
        D.due("n wraps around", x.copy(0, 1, 1, 1, MAX), -12);
        D.due("n 0", x.copy(0, 4, 1, 5, 0), 0);
        D.due("i behind the end, n 0", x.copy(0, 5, 1, 0, 0), -12);
        D.due("copy", x.copy(0, 1, 1, 1, 3), 3);
        D.due("0 2 3 4 0", x.tells(1, 0), 0);
        x.put(1, 0, 1);
        D.due("1 2 3 4 0", x.tells(1, 0), 4);
        x.put(1, 4, 5);
        D.due("1 2 3 4 5", x.tells(1, 0), NONE);
        // within one sheet: as they were
        Due.tell(x, 2, 0, 2, 3, 4, 5, 9, 9);
        D.due("to the right", x.copy(2, 0, 2, 1, 4), 4);
        x.put(2, 0, 1);
        Due.tell(x, 3, 0, 0, 0, 0, 0, 0);
        x.copy(2, 0, 3, 0, 5);
        D.due("as they were", x.tells(3, 0), NONE);
        Due.tell(x, 2, 0, 0, 1, 2, 3, 4, 5);
        D.due("to the left", x.copy(2, 1, 2, 0, 5), 5);
        x.copy(2, 0, 3, 0, 5);
        D.due("as they were, too", x.tells(3, 0), NONE);
    }
}
