import java.util.function.Supplier;

/** The edges that promises 24 to 33 name: rack, puts, moved, laid, image, back, count, sheet, put, copy. */
public final class RacksSheetsEdgesTest {
    private static final Edge E = new Edge("RacksSheetsEdgesTest");
    private static final int NONE = Due.NONE, BAD = Due.BAD, STATE = Due.STATE;
    private static final int MIN = Integer.MIN_VALUE, MAX = Integer.MAX_VALUE;
    private static final int[] NO_HOLDER = {-1, 4, MIN, MAX};

    public static void main(String[] args) throws Exception {
        rack();
        rackMade();
        puts();
        putsWhichFirst();
        moved();
        movedRanges();
        movedUntil();
        movedWithin();
        laid();
        image();
        back();
        backToAll();
        count();
        countFull();
        countUnlike();
        sheet();
        sheetMade();
        put();
        putBits();
        copy();
        copyRanges();
        copyWithin();
        E.end(24, 33);
    }

    // ---- promise 24

    private static void rack() {
        for (int k : NO_HOLDER) E.still(24, "BAD: RACK " + k, Edge::rich, x -> x.rack(k, 0, 1), BAD);
        for (int kind : new int[] {-1, 6, MIN, MAX}) {
            E.still(24, "BAD: KIND " + kind, Edge::rich, x -> x.rack(0, kind, 1), BAD);
            E.still(24, "BAD: KIND " + kind + ", a missing one", Edge::rich, x -> x.rack(2, kind, 1), BAD);
        }
        for (int n : new int[] {11, MAX}) E.still(24, "BAD: n " + n, Edge::rich, x -> x.rack(0, 0, n), BAD);
        for (int n : new int[] {-1, MIN}) {
            E.still(24, "-14: n " + n, Edge::rich, x -> x.rack(0, 0, n), -14);
            E.still(24, "-14: n " + n + ", a missing one", Edge::rich, x -> x.rack(2, 0, n), -14);
            E.still(24, "BAD ahead of -14: RACK, n " + n, Edge::rich, x -> x.rack(4, 0, n), BAD);
            E.still(24, "BAD ahead of -14: KIND, n " + n, Edge::rich, x -> x.rack(0, 6, n), BAD);
        }
    }

    private static void rackMade() {
        for (int rack = 0; rack < 4; rack++) {
            for (int kind = 0; kind < 6; kind++) {
                for (int n : new int[] {0, 1, 9, 10}) {
                    SkylineNester x = Edge.rich();
                    String told = "RACK " + rack + " for " + kind + " of " + n;
                    E.is(24, told, x.rack(rack, kind, n), 1);
                    for (int i = 0; i < n; i++) E.is(24, told + ": all empty", x.laid(rack, i), NONE);
                    E.is(24, told + ": no more places", x.laid(rack, n), -12);
                }
            }
        }
        SkylineNester x = Edge.rich();
        x.rack(0, 1, 4);
        E.is(24, "it is made for another KIND", x.puts(0, 0, 0), -16);
        x.rack(0, 0, 4);
        E.is(24, "and for the one it was", x.puts(0, 0, 0), 1);
        E.is(24, "the others stay", x.laid(1, 0), 2);
        SkylineNester y = new SkylineNester();
        E.is(24, "no PARTS", y.rack(0, 0, 10), 1);
        Due.parts(y, "p1x1");
        E.is(24, "PARTS that come later", y.puts(0, 9, 0), 1);
    }

    // ---- promise 25

    private static void puts() {
        for (int k : NO_HOLDER) E.still(25, "BAD: RACK " + k, Edge::rich, x -> x.puts(k, 0, 0), BAD);
        for (int part : new int[] {-2, 8, MIN, MAX}) {
            E.still(25, "BAD: PART " + part, Edge::rich, x -> x.puts(0, 0, part), BAD);
        }
        E.still(25, "-11: it is missing", Edge::rich, x -> x.puts(2, 0, 0), -11);
        E.still(25, "-11: it is missing, NONE", Edge::rich, x -> x.puts(2, 0, NONE), -11);
        for (int i : new int[] {-1, 4, MIN, MAX}) {
            E.still(25, "-12: place " + i, Edge::rich, x -> x.puts(0, i, 0), -12);
            E.still(25, "-12: place " + i + ", NONE", Edge::rich, x -> x.puts(0, i, NONE), -12);
        }
        E.still(25, "-12: a RACK of 0 places", Edge::rich, x -> x.puts(3, 0, 4), -12);
        E.still(25, "-12: a RACK of 0 places, NONE", Edge::rich, x -> x.puts(3, 0, NONE), -12);
        E.still(25, "-16: a KIND over that", Edge::rich, x -> x.puts(1, 1, 0), -16);
        E.still(25, "-16: a KIND beside that, where a PART is", Edge::rich, x -> x.puts(1, 0, 3), -16);
        SkylineNester x = Edge.rich();
        E.is(25, "the first place", x.puts(0, 0, 7), 1);
        E.is(25, "the first place", x.laid(0, 0), 7);
        E.is(25, "the last place", x.puts(0, 3, 0), 1);
        E.is(25, "the last place", x.laid(0, 3), 0);
        E.is(25, "NONE: nothing", x.puts(0, 3, NONE), 1);
        E.is(25, "NONE: nothing", x.laid(0, 3), NONE);
        E.is(25, "NONE where nothing is", x.puts(0, 3, NONE), 1);
        E.is(25, "NONE into a RACK for another KIND", x.puts(1, 0, NONE), 1);
        E.is(25, "one twice", x.puts(0, 1, 7), 1);
        E.is(25, "a FIXED one", x.puts(0, 2, 6), 1);
        SkylineNester ten = Due.nester(3, "p1x1*9p1x1");
        ten.rack(3, 0, 10);
        E.is(25, "the last PART to the last place of 10", ten.puts(3, 9, 9), 1);
        E.is(25, "BAD: behind the last PART", ten.puts(3, 9, 10), BAD);
        boolean[][] under = {{true, true, true, true, true, true}, {false, true, false, true, false, false},
            {false, false, true, false, true, false}, {false, false, false, true, false, false},
            {false, false, false, false, true, false}, {false, false, false, false, false, true}};
        SkylineNester all = Due.nester(3, "p1x1 t1x1 g1x1 c1x1 s1x1 h1x1");
        for (int kind = 0; kind < 6; kind++) {
            all.rack(0, kind, 1);
            for (int part = 0; part < 6; part++) {
                E.is(25, "a RACK for " + kind + ", one of " + part, all.puts(0, 0, part), under[kind][part] ? 1 : -16);
            }
        }
    }

    private static void putsWhichFirst() {
        E.still(25, "BAD ahead of -11: PART", Edge::rich, x -> x.puts(2, 0, 8), BAD);
        E.still(25, "BAD ahead of -12: PART", Edge::rich, x -> x.puts(0, 4, -2), BAD);
        E.still(25, "BAD ahead of -12: RACK", Edge::rich, x -> x.puts(4, 11, 0), BAD);
        E.still(25, "-11 ahead of -12", Edge::rich, x -> x.puts(2, -1, 0), -11);
        E.still(25, "-12 ahead of -16", Edge::rich, x -> x.puts(1, 3, 0), -12);
        E.still(25, "-12 ahead of -16: below 0", Edge::rich, x -> x.puts(1, -1, 0), -12);
        E.is(25, "BAD: no PARTS, ahead of -11", new SkylineNester().puts(0, 0, 0), BAD);
    }

    // ---- promise 26

    private static int[] places(SkylineNester x, int rack) {
        int size = 0;
        while (x.laid(rack, size) >= NONE) size++;
        int[] row = new int[size];
        for (int i = 0; i < size; i++) row[i] = x.laid(rack, i);
        return row;
    }

    private static void moved() {
        for (int k : NO_HOLDER) {
            E.still(26, "BAD: from RACK " + k, Edge::rich, x -> x.moved(k, 0, 0, 0, 0), BAD);
            E.still(26, "BAD: to RACK " + k, Edge::rich, x -> x.moved(0, 0, k, 0, 0), BAD);
            E.still(26, "BAD ahead of -11: from RACK " + k, Edge::rich, x -> x.moved(k, 0, 2, 0, 0), BAD);
            E.still(26, "BAD ahead of -11: to RACK " + k, Edge::rich, x -> x.moved(2, 0, k, 0, 0), BAD);
            E.still(26, "BAD ahead of -12: to RACK " + k, Edge::rich, x -> x.moved(0, -1, k, 0, -1), BAD);
        }
        E.still(26, "-11: the one is missing", Edge::rich, x -> x.moved(2, 0, 0, 0, 0), -11);
        E.still(26, "-11: the other is missing", Edge::rich, x -> x.moved(0, 0, 2, 0, 0), -11);
        E.still(26, "-11: it itself is missing", Edge::rich, x -> x.moved(2, 0, 2, 0, 0), -11);
        E.still(26, "-11 ahead of -12: n", Edge::rich, x -> x.moved(2, 0, 0, 0, -1), -11);
        E.still(26, "-11 ahead of -12: i", Edge::rich, x -> x.moved(0, 9, 2, 0, 1), -11);
        E.is(26, "-11: missing at first", new SkylineNester().moved(0, 0, 1, 0, 0), -11);
    }

    private static void movedRanges() {
        for (int n : new int[] {-1, 5, MIN, MAX}) {
            E.still(26, "-12: n " + n, Edge::rich, x -> x.moved(0, 0, 0, 0, n), -12);
            E.still(26, "-12: n " + n + " from 1", Edge::rich, x -> x.moved(0, 1, 0, 0, n), -12);
        }
        for (int i : new int[] {-1, 5, MIN, MAX}) {
            for (int n : new int[] {0, 1}) {
                E.still(26, "-12: i " + i + ", n " + n, Edge::rich, x -> x.moved(0, i, 0, 0, n), -12);
                E.still(26, "-12: j " + i + ", n " + n, Edge::rich, x -> x.moved(0, 0, 0, i, n), -12);
            }
        }
        E.still(26, "-12: the last place is one outside, from", Edge::rich, x -> x.moved(0, 2, 0, 0, 3), -12);
        E.still(26, "-12: the last place is one outside, to", Edge::rich, x -> x.moved(0, 0, 0, 2, 3), -12);
        E.still(26, "-12: as many as the one has, not the other", Edge::rich, x -> x.moved(0, 0, 1, 0, 4), -12);
        E.still(26, "-12: a RACK of 0 places, from", Edge::rich, x -> x.moved(3, 0, 0, 0, 1), -12);
        E.still(26, "-12: a RACK of 0 places, to", Edge::rich, x -> x.moved(0, 0, 3, 0, 1), -12);
        E.still(26, "-12: i and n together wrap around", Edge::rich, x -> x.moved(0, 2, 0, 0, MAX), -12);
        E.still(26, "-12: i is MAX, n 1", Edge::rich, x -> x.moved(0, MAX, 0, MAX, 1), -12);
        E.still(26, "-12: ahead of one that it isn't made for", Edge::rich, x -> x.moved(0, 0, 1, 3, 1), -12);
        E.still(26, "n 0", Edge::rich, x -> x.moved(0, 0, 1, 0, 0), 0);
        E.still(26, "n 0, from just behind the last place", Edge::rich, x -> x.moved(0, 4, 1, 0, 0), 0);
        E.still(26, "n 0, to just behind the last place", Edge::rich, x -> x.moved(0, 0, 1, 3, 0), 0);
        E.still(26, "n 0, a RACK of 0 places", Edge::rich, x -> x.moved(3, 0, 3, 0, 0), 0);
        E.still(26, "all of it to where it is", Edge::rich, x -> x.moved(0, 0, 0, 0, 4), 4);
        SkylineNester x = Edge.rich();
        x.rack(2, 0, 10);
        E.is(26, "to the last places", x.moved(0, 0, 2, 6, 4), 4);
        E.row(26, "to the last places", places(x, 2), NONE, NONE, NONE, NONE, NONE, NONE, 0, NONE, 3, 6);
        E.row(26, "it stays where it was", places(x, 0), 0, NONE, 3, 6);
        E.is(26, "from the last place", x.moved(2, 9, 0, 0, 1), 1);
        E.row(26, "from the last place", places(x, 0), 6, NONE, 3, 6);
        E.is(26, "all 10", x.moved(2, 0, 2, 0, 10), 10);
        E.is(26, "-12: 11", x.moved(2, 0, 2, 0, 11), -12);
    }

    private static void movedUntil() {
        E.still(26, "the first is one that it isn't made for", Edge::rich, x -> x.moved(0, 0, 1, 0, 3), 0);
        SkylineNester x = Edge.rich();
        x.rack(2, 0, 5);
        int[] parts = {2, NONE, 2, 0, 2};
        for (int i = 0; i < 5; i++) x.puts(2, i, parts[i]);
        x.rack(1, 1, 5);
        E.is(26, "one by one, until one that it isn't made for", x.moved(2, 0, 1, 0, 5), 3);
        E.row(26, "what is behind that doesn't come", places(x, 1), 2, NONE, 2, NONE, NONE);
        E.is(26, "just up to it", x.moved(2, 0, 1, 2, 3), 3);
        E.row(26, "just up to it", places(x, 1), 2, NONE, 2, NONE, 2);
        E.is(26, "from it on", x.moved(2, 3, 1, 0, 2), 0);
        E.is(26, "from behind it on", x.moved(2, 4, 1, 0, 1), 1);
        E.is(26, "nothing comes as nothing", x.moved(2, 1, 1, 0, 1), 1);
        E.row(26, "nothing comes as nothing", places(x, 1), NONE, NONE, 2, NONE, 2);
        E.is(26, "the last is one that it isn't made for", x.moved(2, 1, 1, 0, 3), 2);
        E.is(26, "those under its KIND come all", x.moved(1, 0, 2, 0, 5), 5);
        // a CLEAR one is two under PLAIN, one under TURNING
        SkylineNester y = Due.nester(3, "c1x1 t1x1");
        for (int kind = 0; kind < 2; kind++) y.rack(kind, kind, 2);
        y.puts(0, 0, 0);
        y.puts(0, 1, 1);
        E.is(26, "KINDS under it", y.moved(0, 0, 1, 0, 2), 2);
        y.rack(2, 3, 2);
        E.is(26, "a KIND over it", y.moved(0, 0, 2, 0, 2), 1);
    }

    private static void movedWithin() {
        for (int n = 0; n <= 4; n++) {
            for (int i = 0; i + n <= 5; i++) {
                for (int j = 0; j + n <= 5; j++) {
                    SkylineNester x = Due.nester(3, "p1x1*5");
                    x.rack(0, 0, 5);
                    int[] want = {4, 3, 2, 1, 0};
                    for (int k = 0; k < 5; k++) x.puts(0, k, want[k]);
                    int[] ahead = want.clone();
                    for (int k = 0; k < n; k++) want[j + k] = ahead[i + k];
                    String told = "in one RACK as they were ahead: " + n + " from " + i + " to " + j;
                    E.is(26, told, x.moved(0, i, 0, j, n), n);
                    E.row(26, told, places(x, 0), want);
                }
            }
        }
    }

    // ---- promise 27

    private static void laid() {
        for (int k : NO_HOLDER) {
            E.still(27, "BAD: RACK " + k, Edge::rich, x -> x.laid(k, 0), BAD);
            E.still(27, "BAD ahead of -12: RACK " + k, Edge::rich, x -> x.laid(k, -1), BAD);
        }
        E.still(27, "-11: it is missing", Edge::rich, x -> x.laid(2, 0), -11);
        E.still(27, "-11 ahead of -12", Edge::rich, x -> x.laid(2, -1), -11);
        for (int i : new int[] {-1, 4, MIN, MAX}) E.still(27, "-12: place " + i, Edge::rich, x -> x.laid(0, i), -12);
        E.still(27, "-12: a RACK of 0 places", Edge::rich, x -> x.laid(3, 0), -12);
        int[] want = {0, NONE, 3, 6};
        for (int i = 0; i < 4; i++) {
            int place = i;
            E.still(27, "place " + i, Edge::rich, x -> x.laid(0, place), want[i]);
        }
    }

    // ---- promises 28 and 29

    private static void image() {
        SkylineNester none = new SkylineNester();
        E.is(28, "no PARTS", none.image(), 0);
        E.is(28, "no PARTS: there is an IMAGE", none.back(), 0);
        SkylineNester ten = Due.nester(3, "p1x1*9p1x1");
        E.is(28, "10", ten.image(), 10);
        E.is(28, "how many PARTS, not how many lie", Edge.rich().image(), 8);
        SkylineNester x = Edge.rich();
        E.is(28, "it changes nothing of the object", x.image(), 8);
        E.is(28, "RACKS' places stay by it", x.laid(0, 0), 0);
        E.is(28, "THE TAPE stays by it", x.count(4), 7);
        x.strip(2);
        x.parts();
        Due.parts(x, "p1x1");
        E.is(28, "a later one", x.image(), 1);
        E.is(28, "instead of the one that was", x.back(), 1);
    }

    private static SkylineNester withoutImage() {
        SkylineNester x = Due.nester(5, "p2x2 t1x2 p1x1");
        x.fix(2, 4, 4);
        Due.order(x, 0, 1, 0);
        x.run();
        Due.tell(x, 0, 1, 1, 2, 3);
        Due.feed(x, "p1x1");
        return x;
    }

    private static void back() {
        E.is(29, "STATE: there is none", new SkylineNester().back(), STATE);
        E.still(29, "STATE: there is none, RACKS' places stay", RacksSheetsEdgesTest::withoutImage, SkylineNester::back, STATE);
        SkylineNester x = Edge.rich();
        E.is(29, "how many PARTS", x.back(), 3);
        E.is(29, "again", x.back(), 3);
        for (int rack = 0; rack < 2; rack++) {
            for (int i = 0; i < 4 - rack; i++) E.is(29, "all places of RACKS are empty", x.laid(rack, i), NONE);
        }
        E.is(29, "RACKS are as long as they were", x.laid(0, 4), -12);
        E.is(29, "a RACK stays missing", x.laid(2, 0), -11);
        E.is(29, "RACKS are made for what they were", x.puts(1, 0, 0), -16);
        E.is(29, "THE TAPE stays", x.count(4), 7);
        E.is(29, "SHEETS stay", x.copy(0, 0, 0, 0, 6), 6);
        E.is(29, "a SHEET stays missing", x.put(2, 0, 0), -11);
        SkylineNester full = Due.nester(1, "");
        full.image();
        Due.parts(full, "p1x1*9p1x1");
        E.is(29, "to none", full.back(), 0);
        E.is(29, "room for 10 again", Due.parts(full, "p1x1*9p1x1"), 10);
        full.image();
        full.strip(20);
        E.is(29, "to 10", full.back(), 10);
        E.is(29, "to WIDE", full.count(5), 1);
        E.row(29, "the last of 10 doesn't lie", Due.lies(full, 9), NONE, NONE, NONE, 0);
    }

    /** The rich one with its own image, all RACKS' places empty. */
    private static SkylineNester imaged() {
        SkylineNester x = Edge.rich();
        x.image();
        for (int i = 0; i < 4; i++) x.puts(0, i, NONE);
        x.puts(1, 0, NONE);
        return x;
    }

    private static SkylineNester returned() {
        SkylineNester x = Edge.rich();
        x.image();
        x.lay(4);
        x.swap(0, 3);
        x.rule(1, 1);
        x.run();
        x.strip(20);
        x.back();
        return x;
    }

    private static void backToAll() {
        E.same(29, "all that it keeps is as in THE IMAGE", RacksSheetsEdgesTest::returned, RacksSheetsEdgesTest::imaged);
        Supplier<SkylineNester> fuller = () -> {
            SkylineNester x = Edge.rich();
            x.image();
            x.parts();
            Due.parts(x, "h6x1*2");
            x.fix(9, 0, 40);
            x.order(NONE);
            x.run();
            x.back();
            Due.feed(x, "p1x1 t2");
            return x;
        };
        E.same(29, "also from more PARTS, WASTE and places of THE ORDER", fuller, RacksSheetsEdgesTest::imaged);
        SkylineNester w = Due.nester(9, "p1x3 g1x3:2 g1x3:5 g2x1:3 g3x2:6 p9x1");
        for (int part = 0; part < 6; part++) w.lay(part);
        w.image();
        w.strip(9);
        Due.parts(w, "p2x4 g1x4:4 g1x4:7 g2x2:5 p9x1");
        for (int part = 0; part < 5; part++) w.lay(part);
        E.row(15, "other WASTE", Due.waste(w), 2, 0, 2, 4, 8, 0, 1, 4, 5, 2, 2, 2);
        w.back();
        E.row(29, "all rectangles of WASTE", Due.waste(w), 1, 0, 1, 3, 3, 1, 2, 2, 6, 2, 3, 1);
        // what comes later doesn't change THE IMAGE
        SkylineNester x = Edge.rich();
        x.image();
        x.back();
        x.lay(NONE);
        x.swap(0, 1);
        x.rule(0, 1);
        E.is(29, "8 again", x.back(), 8);
        E.is(29, "what lies", x.count(2), 7);
        E.is(29, "THE ORDER", x.swap(0, 0), 0);
        E.is(29, "THE RULE", x.rule(0, 1), 4);
    }

    // ---- promise 30

    private static void count() {
        for (int what : new int[] {-1, 8, MIN, MAX}) E.still(30, "BAD: what " + what, Edge::rich, x -> x.count(what), BAD);
        int[] none = {0, 0, 0, 0, 0, 10, 0, 1};
        int[] rich = {8, 4, 7, 10, 7, 6, 7, 24};
        for (int what = 0; what < 8; what++) {
            int asked = what;
            E.is(30, "nothing there, what " + what, new SkylineNester().count(what), none[what]);
            E.still(30, "what " + what, Edge::rich, x -> x.count(asked), rich[what]);
        }
    }

    private static void countFull() {
        SkylineNester x = Due.nester(20, "p1x1 p1x2 p1x3 p1x4 p1x5 p1x6 p1x7 p1x8 p1x9 p2x1");
        x.order(NONE);
        x.run();
        x.feed(5, 1, 1, 1, 1, 1);
        for (int k = 0; k < 11; k++) x.feed(5, 1, 1, 1, 1, 1);
        int[] want = {10, 10, 10, 9, 60, 20, 10, 3628800};
        for (int what = 0; what < 8; what++) E.is(30, "the most, what " + what, x.count(what), want[what]);
        SkylineNester y = Due.nester(1, "c1x9*9c1x9");
        y.order(NONE);
        y.run();
        E.is(30, "a tower of 10", y.count(3), 100);
        E.is(30, "all alike", y.count(6), 1);
        E.is(30, "all alike: one order", y.count(7), 1);
        E.is(30, "the least WIDE", y.count(5), 1);
        SkylineNester z = Due.nester(4, "p1x3 p1x1");
        z.fix(1, 3, 2);
        z.lay(0);
        E.is(30, "TOP of THE SKYLINE and of a FIXED one alike", z.count(3), 3);
        z.lay(NONE);
        E.is(30, "TOP of a FIXED one alone", z.count(3), 3);
        z.fix(1, NONE, 0);
        E.is(30, "TOP of nothing", z.count(3), 0);
        z.fix(1, 3, 0);
        z.lay(0);
        E.is(30, "TOP of THE SKYLINE above FIXED ones", z.count(3), 3);
    }

    private static void countUnlike() {
        String[] others = {"t2x3:4", "p3x3:4", "p2x4:4", "p2x3:5"};
        E.is(30, "alike", Due.nester(9, "p2x3:4 p2x3:4").count(6), 1);
        for (String other : others) {
            SkylineNester x = Due.nester(9, "p2x3:4 " + other + " p2x3:4");
            E.is(30, "unlike: " + other, x.count(6), 2);
            x.order(NONE);
            E.is(30, "unlike orders: " + other, x.count(7), 3);
        }
        SkylineNester x = Due.nester(9, "p1x1*3 p1x1:1 p01x1 p1x2*2");
        E.is(30, "a FIGURE of 1 told or not, a W of 01", x.count(6), 2);
        E.is(30, "orders of an empty ORDER", x.count(7), 1);
        x.order(NONE);
        E.is(30, "7! by 5! and 2!", x.count(7), 21);
        Due.order(x, 0, 6, 0, 5);
        E.is(30, "only THE ORDER's", x.count(7), 3);
        E.is(30, "unlike ones are of all PARTS", x.count(6), 2);
        Due.order(x, 0, 4);
        E.is(30, "an ORDER of one", x.count(7), 1);
        // how it lies doesn't matter
        SkylineNester y = Due.nester(4, "p1x1*3");
        y.fix(0, 0, 0);
        y.lay(1);
        E.is(30, "FIXED, LAID and not", y.count(6), 1);
        SkylineNester z = Due.nester(4, "p1x1 p1x2 p1x1 p1x2 p1x1 p1x2 p1x1 p1x2 p1x1 p1x2");
        z.order(NONE);
        E.is(30, "10! by 5! and 5!", z.count(7), 252);
    }

    // ---- promise 31

    private static void sheet() {
        for (int k : NO_HOLDER) {
            for (int sort = -1; sort < 2; sort++) {
                int told = sort;
                E.still(31, "BAD: SHEET " + k + ", sort " + sort, Edge::rich, x -> x.sheet(k, told, 1), BAD);
            }
            E.still(31, "BAD ahead of -14: SHEET " + k, Edge::rich, x -> x.sheet(k, 0, -1), BAD);
        }
        for (int sort : new int[] {-2, 2, MIN, MAX}) {
            E.still(31, "BAD: sort " + sort, Edge::rich, x -> x.sheet(0, sort, 1), BAD);
            E.still(31, "BAD: sort " + sort + ", a missing one", Edge::rich, x -> x.sheet(2, sort, 1), BAD);
            E.still(31, "BAD ahead of -14: sort " + sort, Edge::rich, x -> x.sheet(0, sort, -1), BAD);
        }
        for (int sort = 0; sort < 2; sort++) {
            int told = sort;
            for (int n : new int[] {41, MAX}) E.still(31, "BAD: n " + n, Edge::rich, x -> x.sheet(0, told, n), BAD);
            for (int n : new int[] {-1, MIN}) {
                E.still(31, "-14: n " + n, Edge::rich, x -> x.sheet(0, told, n), -14);
                E.still(31, "-14: n " + n + ", a missing one", Edge::rich, x -> x.sheet(2, told, n), -14);
            }
        }
    }

    private static void sheetMade() {
        for (int sheet = 0; sheet < 4; sheet++) {
            for (int sort = 0; sort < 2; sort++) {
                for (int n : new int[] {0, 1, 39, 40}) {
                    SkylineNester x = Edge.rich();
                    String told = "SHEET " + sheet + " of sort " + sort + ", n " + n;
                    E.is(31, told, x.sheet(sheet, sort, n), 1);
                    E.is(31, told + ": all of it", x.copy(sheet, 0, sheet, 0, n), n);
                    E.is(31, told + ": no more", x.copy(sheet, 0, sheet, 0, n + 1), -12);
                    int other = (sheet + 1) % 4;
                    x.sheet(other, sort, 0);
                    E.is(31, told + ": its sort", x.copy(sheet, 0, other, 0, 0), 0);
                    x.sheet(other, 1 - sort, 0);
                    E.is(31, told + ": no other sort", x.copy(sheet, 0, other, 0, 0), -13);
                }
            }
            for (int n : new int[] {MIN, -1, 0, 1, 40, 41, MAX}) {
                SkylineNester x = Edge.rich();
                E.is(31, "missing, n " + n + " does not matter", x.sheet(sheet, -1, n), 1);
                E.is(31, "it is missing", x.put(sheet, 0, 0), -11);
            }
        }
        for (int sort = 0; sort < 2; sort++) {
            SkylineNester x = Due.nester(20, "");
            x.sheet(0, sort, 40);
            for (int i = 0; i < 40; i++) x.put(0, i, 7);
            x.sheet(0, sort, 20);
            E.is(31, "all 0 of one that had others", x.tells(0, 0), NONE);
            x.sheet(0, NONE, 0);
            x.sheet(0, sort, 20);
            E.is(31, "all 0 of one that was missing", x.tells(0, 0), NONE);
            x.sheet(0, sort, 40);
            x.sheet(1, sort, 20);
            x.copy(0, 20, 1, 0, 20);
            E.is(31, "all 0 to the last of 40", x.tells(1, 0), NONE);
        }
    }

    // ---- promise 32

    private static void put() {
        for (int k : NO_HOLDER) {
            E.still(32, "BAD: SHEET " + k, Edge::rich, x -> x.put(k, 0, 0), BAD);
            E.still(32, "BAD ahead of -12: SHEET " + k, Edge::rich, x -> x.put(k, -1, 0), BAD);
        }
        E.still(32, "-11: it is missing", Edge::rich, x -> x.put(2, 0, 0), -11);
        E.still(32, "-11 ahead of -12", Edge::rich, x -> x.put(2, -1, 0), -11);
        for (int i : new int[] {-1, 6, MIN, MAX}) E.still(32, "-12: item " + i, Edge::rich, x -> x.put(0, i, 5), -12);
        E.still(32, "-12: behind the last of shorts", Edge::rich, x -> x.put(1, 3, 5), -12);
        E.still(32, "-12: a SHEET of none", Edge::rich, x -> x.put(3, 0, 5), -12);
        SkylineNester x = Due.nester(3, "p1x5 p1x6 p1x7");
        for (int part = 0; part < 3; part++) x.lay(part);
        for (int sort = 0; sort < 2; sort++) {
            x.sheet(sort, sort, 3);
            E.is(32, "the last item", x.put(sort, 2, 7), 1);
            E.is(32, "the first item", x.put(sort, 0, 5), 1);
            E.is(32, "no other changes", x.tells(sort, 0), 1);
            E.is(32, "the one between", x.put(sort, 1, 6), 1);
            E.is(32, "they are told", x.tells(sort, 0), NONE);
            x.sheet(sort, sort, 40);
            E.is(32, "the last of 40", x.put(sort, 39, 5), 1);
            E.is(32, "-12: behind 40", x.put(sort, 40, 5), -12);
        }
    }

    /** One column of a height 5; whether a sheet of one number tells it. */
    private static void told(String sentence, int sort, int v, int want) {
        SkylineNester x = Due.nester(1, "p1x5");
        x.lay(0);
        x.sheet(0, sort, 1);
        E.is(32, sentence + ": " + v, x.put(0, 0, v), 1);
        E.is(32, sentence + ": " + v, x.tells(0, 0), want);
    }

    private static void putBits() {
        for (int v : new int[] {5, 65536 + 5, 5 - 65536, 0x7FFF0005, 0x80000005, 0xFFFF0005}) {
            told("of shorts its lowest 16 bits", 0, v, NONE);
            told("of ints all", 1, v, v == 5 ? NONE : 0);
        }
        for (int v : new int[] {32768 + 5, 5 - 32768, 256 + 5, -5, 4, 6, 0, MIN, MAX, 16384 + 5}) {
            told("of shorts another number", 0, v, 0);
            told("of ints another number", 1, v, 0);
        }
        SkylineNester x = Due.nester(1, "");
        x.sheet(0, 0, 2);
        x.sheet(1, 0, 1);
        x.put(0, 0, 65536);
        E.is(32, "65536 of shorts is 0", x.tells(0, 0), 1);
        x.copy(0, 0, 1, 0, 1);
        E.is(32, "65536 of shorts is 0, copied", x.tells(1, 0), NONE);
        x.put(0, 0, 65535);
        x.copy(0, 0, 1, 0, 1);
        E.is(32, "65535 of shorts is -1, copied", x.tells(1, 0), 0);
    }

    // ---- promise 33

    private static void copy() {
        for (int k : NO_HOLDER) {
            E.still(33, "BAD: from SHEET " + k, Edge::rich, x -> x.copy(k, 0, 0, 0, 0), BAD);
            E.still(33, "BAD: to SHEET " + k, Edge::rich, x -> x.copy(0, 0, k, 0, 0), BAD);
            E.still(33, "BAD ahead of -11: from SHEET " + k, Edge::rich, x -> x.copy(k, 0, 2, 0, 0), BAD);
            E.still(33, "BAD ahead of -11: to SHEET " + k, Edge::rich, x -> x.copy(2, 0, k, 0, 0), BAD);
            E.still(33, "BAD ahead of -12: to SHEET " + k, Edge::rich, x -> x.copy(0, 0, k, 0, -1), BAD);
        }
        E.still(33, "-11: the one is missing", Edge::rich, x -> x.copy(2, 0, 0, 0, 0), -11);
        E.still(33, "-11: the other is missing", Edge::rich, x -> x.copy(0, 0, 2, 0, 0), -11);
        E.still(33, "-11: the other of shorts is missing", Edge::rich, x -> x.copy(1, 0, 2, 0, 0), -11);
        E.still(33, "-11: it itself is missing", Edge::rich, x -> x.copy(2, 0, 2, 0, 0), -11);
        E.still(33, "-11 ahead of -12: n", Edge::rich, x -> x.copy(2, 0, 0, 0, -1), -11);
        E.still(33, "-11 ahead of -12: i", Edge::rich, x -> x.copy(0, 9, 2, 0, 1), -11);
        E.still(33, "-13: ints to shorts", Edge::rich, x -> x.copy(0, 0, 1, 0, 1), -13);
        E.still(33, "-13: shorts to ints", Edge::rich, x -> x.copy(1, 0, 0, 0, 1), -13);
        E.still(33, "-13: none of them", Edge::rich, x -> x.copy(1, 0, 3, 0, 0), -13);
        E.still(33, "-13 ahead of -12: n", Edge::rich, x -> x.copy(0, 0, 1, 0, -1), -13);
        E.still(33, "-13 ahead of -12: i", Edge::rich, x -> x.copy(0, 7, 1, 0, 1), -13);
        E.still(33, "-13 ahead of -12: j", Edge::rich, x -> x.copy(1, 0, 0, -1, 1), -13);
    }

    private static void copyRanges() {
        for (int n : new int[] {-1, 7, MIN, MAX}) {
            E.still(33, "-12: n " + n, Edge::rich, x -> x.copy(0, 0, 0, 0, n), -12);
            E.still(33, "-12: n " + n + " from 1", Edge::rich, x -> x.copy(0, 1, 0, 0, n), -12);
        }
        for (int i : new int[] {-1, 7, MIN, MAX}) {
            for (int n : new int[] {0, 1}) {
                E.still(33, "-12: i " + i + ", n " + n, Edge::rich, x -> x.copy(0, i, 0, 0, n), -12);
                E.still(33, "-12: j " + i + ", n " + n, Edge::rich, x -> x.copy(0, 0, 0, i, n), -12);
            }
        }
        E.still(33, "-12: the last is one outside, from", Edge::rich, x -> x.copy(0, 4, 0, 0, 3), -12);
        E.still(33, "-12: the last is one outside, to", Edge::rich, x -> x.copy(0, 0, 0, 4, 3), -12);
        E.still(33, "-12: a SHEET of none, from", Edge::rich, x -> x.copy(3, 0, 0, 0, 1), -12);
        E.still(33, "-12: a SHEET of none, to", Edge::rich, x -> x.copy(0, 0, 3, 0, 1), -12);
        E.still(33, "-12: i and n together wrap around", Edge::rich, x -> x.copy(0, 2, 0, 0, MAX), -12);
        E.still(33, "-12: i is MAX, n 1", Edge::rich, x -> x.copy(0, MAX, 0, MAX, 1), -12);
        E.still(33, "n 0", Edge::rich, x -> x.copy(0, 0, 0, 3, 0), 0);
        E.still(33, "n 0, from just behind the last", Edge::rich, x -> x.copy(0, 6, 0, 0, 0), 0);
        E.still(33, "n 0, to just behind the last", Edge::rich, x -> x.copy(0, 0, 0, 6, 0), 0);
        E.still(33, "n 0, a SHEET of none", Edge::rich, x -> x.copy(3, 0, 3, 0, 0), 0);
        E.still(33, "n 0, from one to a SHEET of none", Edge::rich, x -> x.copy(0, 6, 3, 0, 0), 0);
        E.still(33, "all of it to where it is", Edge::rich, x -> x.copy(0, 0, 0, 0, 6), 6);
        SkylineNester x = Due.nester(1, "");
        x.sheet(0, 1, 40);
        x.sheet(1, 1, 40);
        E.is(33, "all 40", x.copy(0, 0, 1, 0, 40), 40);
        E.is(33, "-12: 41", x.copy(0, 0, 1, 0, 41), -12);
        E.is(33, "the last", x.copy(0, 39, 1, 39, 1), 1);
        E.is(33, "-12: one behind the last, from", x.copy(0, 40, 1, 39, 1), -12);
        E.is(33, "-12: one behind the last, to", x.copy(0, 39, 1, 40, 1), -12);
    }

    private static void tellsNow(String sentence, SkylineNester x, int sheet, int... want) {
        for (int i = 0; i < want.length; i++) E.is(33, sentence + ", item " + i, numberOf(x, sheet, i), want[i]);
    }

    /** An item, by comparing it with towers; the strip, its parts and sheet 3 are lost by that. */
    private static int numberOf(SkylineNester x, int sheet, int i) {
        int scratch = 3;
        for (int height = 0; height < 10; height++) {
            x.strip(1);
            if (height > 0) Due.parts(x, "p1x" + height);
            if (height > 0) x.lay(0);
            x.sheet(scratch, 1, 1);
            if (x.copy(sheet, i, scratch, 0, 1) != 1) {
                x.sheet(scratch, 0, 1);
                x.copy(sheet, i, scratch, 0, 1);
            }
            if (x.tells(scratch, 0) == NONE) return height;
        }
        return NONE;
    }

    private static void copyWithin() {
        for (int sort = 0; sort < 2; sort++) {
            for (int n = 0; n <= 5; n++) {
                for (int i = 0; i + n <= 5; i++) {
                    for (int j = 0; j + n <= 5; j += sort + 1) {
                        SkylineNester x = new SkylineNester();
                        int[] want = {5, 4, 3, 2, 1};
                        Due.tell(x, 0, sort, want);
                        int[] ahead = want.clone();
                        for (int k = 0; k < n; k++) want[j + k] = ahead[i + k];
                        String told = "in one SHEET as they were: " + n + " from " + i + " to " + j;
                        E.is(33, told, x.copy(0, i, 0, j, n), n);
                        tellsNow(told, x, 0, want);
                    }
                }
            }
        }
        SkylineNester x = new SkylineNester();
        Due.tell(x, 0, 0, 9, 8, 7);
        Due.tell(x, 1, 0, 1, 2, 3, 4);
        E.is(33, "from one to another", x.copy(0, 1, 1, 2, 2), 2);
        tellsNow("it came", x, 1, 1, 2, 8, 7);
        tellsNow("it stays where it was", x, 0, 9, 8, 7);
    }
}
