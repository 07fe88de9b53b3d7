import java.util.Arrays;

/** A skyline nester, as ../shared/DOC.md tells it; the words used here are the document's own. */
public final class SkylineNester {
    public static final int NONE = -1, BAD = -2, STATE = -3, FULL = -4;

    private static final int MISSING = -11, OUTSIDE = -12, OTHER_SORT = -13, BELOW_ZERO = -14, OVER_ANOTHER = -15;
    private static final int NOT_MADE_FOR = -16, FAULT = -100;

    private static final int TURNING = 1, GRAINED = 2, CLEAR = 3, STEPPED = 4, HEAVY = 5, KINDS = 6;
    /** The kind that each kind stands right under. */
    private static final int[] KIND_ABOVE = {-1, 0, 0, 1, 2, 0};

    private static final int NOT_LYING = 0, FIXED = 1, ON_SKYLINE = 2, IN_WASTE = 3;
    private static final int RULE_WASTED = 1, RULE_UPPER_EDGE = 2, RULE_TOUCHING = 3, RULES = 4;

    private static final int MOST_WIDE = 20, MOST_PARTS = 10, MOST_FIXED_Y = 60, TAPE_ROOM = 60, MOST_FED = 5;
    private static final int MOST_SEARCHED = 5, ORDERS_SEARCHED = 120, BOUNDS = 9;
    private static final int MOST_DRAWS = 20, MOST_SEEDS = 8, DRAWS_OF_A_CHANCE = 6;
    private static final int HOLDERS = 4, SHEET_ROOM = 40, MOST_TOLD = 20, SHORTS = 0, INTS = 1;
    /** No more rectangles come of 10 parts: together they cover at most 31 segments, and split 10 rectangles. */
    private static final int WASTE_ROOM = 64;

    private final Tape tape = new Tape();
    private final Plan plan = new Plan();
    private final Plan kept = new Plan();
    /** What runs in thought are tried on, so that the plan stays as it is. */
    private final Plan thought = new Plan();
    private final Layer layer = new Layer();
    private final Search search = new Search();
    private final Cuts cuts = new Cuts();
    private final Rack[] racks = new Rack[HOLDERS];
    private final Sheet[] sheets = new Sheet[HOLDERS];
    private boolean hasImage = false;

    public SkylineNester() {
        for (int k = 0; k < HOLDERS; k++) {
            racks[k] = new Rack();
            sheets[k] = new Sheet();
        }
    }

    // ---- the strip, parts

    public int feed(int n, int a, int b, int c, int d, int e) {
        if (n < 1 || n > MOST_FED) return BAD;
        if (!isByte(a) || !isByte(b) || !isByte(c) || !isByte(d) || !isByte(e)) return BAD;
        if (tape.size + n > TAPE_ROOM) return FULL;
        tape.append(a);
        if (n > 1) tape.append(b);
        if (n > 2) tape.append(c);
        if (n > 3) tape.append(d);
        if (n > 4) tape.append(e);
        return tape.size;
    }

    public int strip(int wide) {
        if (wide < 1 || wide > MOST_WIDE) return BAD;
        int was = plan.wide;
        plan.empty(wide);
        emptyRacks();
        return was;
    }

    public int parts() {
        int come = tape.read(plan.wide);
        tape.size = 0;
        if (come < 0) return come;
        if (plan.count + come > MOST_PARTS) return FULL;
        for (int k = 0; k < come; k++) {
            plan.parts[plan.count].becomeLike(tape.items[k]);
            plan.count++;
        }
        return plan.count;
    }

    public int told(int part, int what) {
        if (!plan.isPart(part)) return BAD;
        Part p = plan.parts[part];
        switch (what) {
            case 0: return p.kind;
            case 1: return p.w;
            case 2: return p.h;
            case 3: return p.figure;
            case 4: return p.lies() ? p.x : NONE;
            case 5: return p.lies() ? p.y : NONE;
            case 6: return p.lies() ? (p.turned ? 1 : 0) : NONE;
            case 7: return p.how;
            default: return BAD;
        }
    }

    public int taken(int part, int k) {
        if (!plan.isPart(part) || !isKind(k)) return BAD;
        Part p = plan.parts[part];
        return isUnder(p.kind, k) ? p.w * p.tallIf(false) : OTHER_SORT;
    }

    public int fix(int part, int x, int y) {
        if (!plan.isPart(part) || x < NONE || x >= MOST_WIDE) return BAD;
        if (x != NONE && (y < 0 || y > MOST_FIXED_Y)) return BAD;
        Part p = plan.parts[part];
        boolean isFixed = p.how == FIXED;
        if (plan.hasLaid() || plan.isInOrder(part) || isFixed != (x == NONE)) return STATE;
        if (x == NONE) {
            p.how = NOT_LYING;
            return 1;
        }
        if (x + p.w > plan.wide) return OUTSIDE;
        if (plan.topOfFixedIn(x, y, p.w, p.tallIf(false)) != NONE) return OVER_ANOTHER;
        p.lieAt(x, y, false, FIXED);
        return 1;
    }

    // ---- laying

    public int order(int rack) {
        if (rack != NONE && !isHolder(rack)) return BAD;
        if (rack == NONE) {
            plan.orderAll();
            return plan.ordered;
        }
        Rack from = racks[rack];
        if (from.isMissing()) return MISSING;
        if (!plan.mayBeOrder(from)) return STATE;
        plan.orderBy(from);
        return plan.ordered;
    }

    public int swap(int i, int j) {
        if (i < 0 || i >= plan.ordered || j < 0 || j >= plan.ordered) return OUTSIDE;
        plan.exchange(i, j);
        return plan.order[i];
    }

    public int rule(int rule, int waste) {
        if (rule < 0 || rule >= RULES || waste < 0 || waste > 1) return BAD;
        int was = 2 * plan.rule + (plan.usesWaste ? 1 : 0);
        plan.rule = rule;
        plan.usesWaste = waste == 1;
        return was;
    }

    public int place(int part, int what) {
        if (!plan.isPart(part) || what < 0 || what > 3) return BAD;
        Part p = plan.parts[part];
        if (p.lies()) return STATE;
        layer.find(plan, p);
        Spot spot = layer.spot;
        if (!spot.found) return NONE;
        switch (what) {
            case 0: return spot.x;
            case 1: return spot.y;
            case 2: return spot.turned ? 1 : 0;
            default: return spot.rectangle != NONE ? 1 : 0;
        }
    }

    public int lay(int part) {
        if (part == NONE) {
            plan.clearLaid();
            return 0;
        }
        if (!plan.isPart(part)) return BAD;
        Part p = plan.parts[part];
        if (p.lies()) return STATE;
        return layer.layOne(plan, p) ? p.y : NONE;
    }

    public int run() {
        return layer.runAll(plan);
    }

    public int sky(int k, int what) {
        if (what < 0 || what > 2) return BAD;
        if (k == NONE) return plan.segments();
        int from = k < 0 ? NONE : plan.segmentStart(k);
        if (from == NONE) return OUTSIDE;
        if (what == 0) return from;
        return what == 1 ? plan.segmentEnd(from) - from : plan.sky[from];
    }

    public int waste(int k, int what) {
        if (what < 0 || what > 3) return BAD;
        Waste all = plan.waste;
        if (k == NONE) return all.size;
        if (k < 0 || k >= all.size) return OUTSIDE;
        switch (what) {
            case 0: return all.x[k];
            case 1: return all.y[k];
            case 2: return all.w[k];
            default: return all.h[k];
        }
    }

    // ---- bounds, the best, layouts

    public int bound(int which) {
        if (which < 0 || which >= BOUNDS) return BAD;
        return Bounds.of(plan, which);
    }

    public int best(int k) {
        if (plan.ordered > MOST_SEARCHED) return STATE;
        if (k < NONE || k >= plan.ordered) return OUTSIDE;
        thought.becomeLike(plan);
        search.findBest(thought, layer);
        if (search.bestTop == NONE) return NONE;
        return k == NONE ? search.bestTop : search.bestOrder[k];
    }

    public int layouts(int what) {
        if (what < 0 || what > 1) return BAD;
        if (plan.ordered > MOST_SEARCHED) return STATE;
        thought.becomeLike(plan);
        search.findLayouts(thought, layer);
        return what == 0 ? search.unlike : search.mostAlike();
    }

    public int stages() {
        cuts.takeFrom(plan);
        return cuts.leastStages();
    }

    public int centre(int what) {
        if (what < 0 || what > 2) return BAD;
        if (plan.lying() == 0) return STATE;
        return bitsOf(what == 2 ? plan.fill() : plan.middle(what == 1));
    }

    public int drawn(int seed, int n) {
        if (n < 0 || n > MOST_DRAWS) return BAD;
        return topDrawn(seed, n);
    }

    public int chance(int seed, int m, int top, int part) {
        if (m < 1 || m > MOST_SEEDS || top < 0 || part < 0 || part > 1) return BAD;
        int low = 0;
        for (int k = 0; k < m; k++) {
            if (topDrawn(seed + k, DRAWS_OF_A_CHANCE) <= top) low++;
        }
        int shared = greatestDivisor(low, m);
        return (part == 0 ? low : m) / shared;
    }

    public int tells(int sheet, int what) {
        if (!isHolder(sheet) || what < 0 || what > 2) return BAD;
        Sheet from = sheets[sheet];
        if (from.isMissing()) return MISSING;
        if (from.size > MOST_TOLD) return BAD;
        if (what == 0) return from.firstUnlike(plan);
        thought.becomeLike(plan);
        return what == 1 ? rulesThatTell(from) : pairsThatTell(from);
    }

    // ---- racks

    public int rack(int rack, int kind, int n) {
        if (!isHolder(rack) || !isKind(kind) || n > MOST_PARTS) return BAD;
        if (n < 0) return BELOW_ZERO;
        racks[rack].begin(kind, n);
        return 1;
    }

    public int puts(int rack, int i, int part) {
        if (!isHolder(rack) || (part != NONE && !plan.isPart(part))) return BAD;
        Rack to = racks[rack];
        if (to.isMissing()) return MISSING;
        if (i < 0 || i >= to.size) return OUTSIDE;
        if (!to.takes(plan, part)) return NOT_MADE_FOR;
        to.places[i] = part;
        return 1;
    }

    public int moved(int rack, int i, int other, int j, int n) {
        if (!isHolder(rack) || !isHolder(other)) return BAD;
        Rack from = racks[rack];
        Rack to = racks[other];
        if (from.isMissing() || to.isMissing()) return MISSING;
        if (!isRange(i, n, from.size) || !isRange(j, n, to.size)) return OUTSIDE;
        int come = 0;
        while (come < n && to.takes(plan, from.places[i + come])) come++;
        // arraycopy reads all ahead of writing, as one rack asks; all that come are known by now
        System.arraycopy(from.places, i, to.places, j, come);
        return come;
    }

    public int laid(int rack, int i) {
        if (!isHolder(rack)) return BAD;
        Rack from = racks[rack];
        if (from.isMissing()) return MISSING;
        return i < 0 || i >= from.size ? OUTSIDE : from.places[i];
    }

    // ---- the image

    public int image() {
        kept.becomeLike(plan);
        hasImage = true;
        return plan.count;
    }

    public int back() {
        if (!hasImage) return STATE;
        plan.becomeLike(kept);
        emptyRacks();
        return plan.count;
    }

    public int count(int what) {
        switch (what) {
            case 0: return plan.count;
            case 1: return plan.ordered;
            case 2: return plan.lying();
            case 3: return plan.top();
            case 4: return tape.size;
            case 5: return plan.wide;
            case 6: return plan.unlikeParts();
            case 7: return plan.unlikeOrders();
            default: return BAD;
        }
    }

    // ---- the host

    public int sheet(int sheet, int sort, int n) {
        if (!isHolder(sheet) || sort < NONE || sort > INTS) return BAD;
        if (sort == NONE) {
            sheets[sheet].sort = NONE;
            return 1;
        }
        if (n > SHEET_ROOM) return BAD;
        if (n < 0) return BELOW_ZERO;
        sheets[sheet].begin(sort, n);
        return 1;
    }

    public int put(int sheet, int i, int v) {
        if (!isHolder(sheet)) return BAD;
        Sheet to = sheets[sheet];
        if (to.isMissing()) return MISSING;
        if (i < 0 || i >= to.size) return OUTSIDE;
        to.items[i] = to.sort == SHORTS ? (short) v : v;
        return 1;
    }

    public int copy(int sheet, int i, int other, int j, int n) {
        if (!isHolder(sheet) || !isHolder(other)) return BAD;
        Sheet from = sheets[sheet];
        Sheet to = sheets[other];
        if (from.isMissing() || to.isMissing()) return MISSING;
        if (from.sort != to.sort) return OTHER_SORT;
        if (!isRange(i, n, from.size) || !isRange(j, n, to.size)) return OUTSIDE;
        System.arraycopy(from.items, i, to.items, j, n);
        return n;
    }

    // ---- what the face leans on

    private static boolean isByte(int value) {
        return value >= 0 && value <= 255;
    }

    private static boolean isKind(int kind) {
        return kind >= 0 && kind < KINDS;
    }

    /** Racks and sheets bear the same numbers. */
    private static boolean isHolder(int number) {
        return number >= 0 && number < HOLDERS;
    }

    /** Whether n places from i on stand in a row of a size; no sum is made that could wrap around. */
    private static boolean isRange(int i, int n, int size) {
        return n >= 0 && i >= 0 && n <= size && i <= size - n;
    }

    private static boolean isUnder(int kind, int base) {
        int at = kind;
        for (int step = 0; step < KINDS && at != NONE; step++) {
            if (at == base) return true;
            at = KIND_ABOVE[at];
        }
        return false;
    }

    /** For b above 0; then what it answers is above 0, too. */
    private static int greatestDivisor(int a, int b) {
        int rest = a;
        int divisor = b;
        for (int step = 0; step < 64 && rest != 0; step++) {
            int next = divisor % rest;
            divisor = rest;
            rest = next;
        }
        return divisor;
    }

    /** The bits of a float above 0 that is not subnormal, by exact steps: the library's own are not to be used. */
    private static int bitsOf(float value) {
        float rest = value;
        int exponent = 127;
        for (int step = 0; step < 127 && rest >= 2f; step++) {
            rest = rest / 2f;
            exponent++;
        }
        for (int step = 0; step < 126 && rest < 1f; step++) {
            rest = rest * 2f;
            exponent--;
        }
        return (exponent << 23) + (int) ((rest - 1f) * 8388608f);
    }

    private void emptyRacks() {
        for (int k = 0; k < HOLDERS; k++) racks[k].empty();
    }

    private int topDrawn(int seed, int n) {
        thought.becomeLike(plan);
        int many = thought.ordered;
        int z = seed;
        for (int draw = 0; draw < n && many > 0; draw++) {
            z = z * 1103515245 + 12345;
            int i = (z >>> 9) % many;
            z = z * 1103515245 + 12345;
            int j = (z >>> 9) % many;
            thought.exchange(i, j);
        }
        layer.runAll(thought);
        return thought.top();
    }

    private int rulesThatTell(Sheet sheet) {
        int bits = 0;
        for (int rule = 0; rule < RULES; rule++) {
            thought.rule = rule;
            layer.runAll(thought);
            if (sheet.firstUnlike(thought) == NONE) bits |= 1 << rule;
        }
        return bits;
    }

    private int pairsThatTell(Sheet sheet) {
        int pairs = 0;
        for (int i = 0; i < thought.ordered; i++) {
            for (int j = i + 1; j < thought.ordered; j++) {
                thought.exchange(i, j);
                layer.runAll(thought);
                if (sheet.firstUnlike(thought) == NONE) pairs++;
                thought.exchange(i, j);
            }
        }
        return pairs;
    }

    // ---- the things it is made of

    /** One part, and where it lies. */
    private static final class Part {
        int kind;
        int w;
        int h;
        int figure;
        int how;
        int x;
        int y;
        boolean turned;
        /** The columns and the heights that it takes where it lies. */
        int across;
        int tall;

        void begin(int itsKind, int itsW, int itsH, int itsFigure) {
            kind = itsKind;
            w = itsW;
            h = itsH;
            figure = itsFigure;
        }

        void becomeLike(Part other) {
            kind = other.kind;
            w = other.w;
            h = other.h;
            figure = other.figure;
            how = other.how;
            x = other.x;
            y = other.y;
            turned = other.turned;
            across = other.across;
            tall = other.tall;
        }

        boolean lies() {
            return how != NOT_LYING;
        }

        /** Whether it lies where a run takes it up again. */
        boolean isLaid() {
            return how == ON_SKYLINE || how == IN_WASTE;
        }

        void lieAt(int atX, int atY, boolean over, int itsHow) {
            x = atX;
            y = atY;
            turned = over;
            how = itsHow;
            across = acrossIf(over);
            tall = tallIf(over);
        }

        /** 1, or 2 if it may lie turned over, too. */
        int ways(int wide) {
            return isUnder(kind, TURNING) && h <= wide ? 2 : 1;
        }

        int acrossIf(boolean over) {
            return over ? h : w;
        }

        int tallIf(boolean over) {
            int high = over ? w : h;
            return isUnder(kind, CLEAR) ? high + 1 : high;
        }

        boolean mayLieAt(int atX, int atY, int wasted) {
            if (figure < 1) return false;
            if (isUnder(kind, GRAINED) && atX % figure != 0) return false;
            if (isUnder(kind, STEPPED) && atY % figure != 0) return false;
            return !isUnder(kind, HEAVY) || wasted < figure;
        }

        boolean isLike(Part other) {
            return kind == other.kind && w == other.w && h == other.h && figure == other.figure;
        }
    }

    /** The rectangles of waste, ordered by y, then x. */
    private static final class Waste {
        final int[] x = new int[WASTE_ROOM];
        final int[] y = new int[WASTE_ROOM];
        final int[] w = new int[WASTE_ROOM];
        final int[] h = new int[WASTE_ROOM];
        int size = 0;

        void becomeLike(Waste other) {
            System.arraycopy(other.x, 0, x, 0, other.size);
            System.arraycopy(other.y, 0, y, 0, other.size);
            System.arraycopy(other.w, 0, w, 0, other.size);
            System.arraycopy(other.h, 0, h, 0, other.size);
            size = other.size;
        }

        /** One without an area does not come. */
        void add(int itsX, int itsY, int itsW, int itsH) {
            if (itsW <= 0 || itsH <= 0 || size >= WASTE_ROOM) return;
            int at = size;
            while (at > 0 && isBehind(at - 1, itsX, itsY)) {
                x[at] = x[at - 1];
                y[at] = y[at - 1];
                w[at] = w[at - 1];
                h[at] = h[at - 1];
                at--;
            }
            x[at] = itsX;
            y[at] = itsY;
            w[at] = itsW;
            h[at] = itsH;
            size++;
        }

        /** Takes a rectangle's lower left corner away; what is right of that and above it stays. */
        void takeCorner(int k, int across, int tall) {
            if (k < 0 || k >= size) return;
            int itsX = x[k];
            int itsY = y[k];
            int itsW = w[k];
            int itsH = h[k];
            drop(k);
            add(itsX + across, itsY, itsW - across, itsH);
            add(itsX, itsY + tall, across, itsH - tall);
        }

        private void drop(int k) {
            size--;
            for (int at = k; at < size; at++) {
                x[at] = x[at + 1];
                y[at] = y[at + 1];
                w[at] = w[at + 1];
                h[at] = h[at + 1];
            }
        }

        private boolean isBehind(int k, int itsX, int itsY) {
            return y[k] > itsY || (y[k] == itsY && x[k] > itsX);
        }
    }

    /** All that an image keeps. */
    private static final class Plan {
        final Part[] parts = new Part[MOST_PARTS];
        final int[] order = new int[MOST_PARTS];
        final int[] sky = new int[MOST_WIDE];
        final Waste waste = new Waste();
        int wide = 10;
        int count = 0;
        int ordered = 0;
        int rule = 0;
        boolean usesWaste = true;

        Plan() {
            for (int k = 0; k < MOST_PARTS; k++) parts[k] = new Part();
        }

        void becomeLike(Plan other) {
            for (int k = 0; k < other.count; k++) parts[k].becomeLike(other.parts[k]);
            System.arraycopy(other.order, 0, order, 0, other.ordered);
            System.arraycopy(other.sky, 0, sky, 0, other.wide);
            waste.becomeLike(other.waste);
            wide = other.wide;
            count = other.count;
            ordered = other.ordered;
            rule = other.rule;
            usesWaste = other.usesWaste;
        }

        void empty(int newWide) {
            wide = newWide;
            count = 0;
            ordered = 0;
            clearLaid();
        }

        void clearLaid() {
            Arrays.fill(sky, 0);
            waste.size = 0;
            for (int k = 0; k < count; k++) {
                if (parts[k].isLaid()) parts[k].how = NOT_LYING;
            }
        }

        boolean isPart(int part) {
            return part >= 0 && part < count;
        }

        boolean isInOrder(int part) {
            for (int k = 0; k < ordered; k++) {
                if (order[k] == part) return true;
            }
            return false;
        }

        boolean hasLaid() {
            for (int k = 0; k < count; k++) {
                if (parts[k].isLaid()) return true;
            }
            return false;
        }

        int lying() {
            int many = 0;
            for (int k = 0; k < count; k++) {
                if (parts[k].lies()) many++;
            }
            return many;
        }

        int top() {
            int top = 0;
            for (int c = 0; c < wide; c++) top = Math.max(top, sky[c]);
            for (int k = 0; k < count; k++) {
                Part p = parts[k];
                if (p.how == FIXED) top = Math.max(top, p.y + p.tall);
            }
            return top;
        }

        void orderAll() {
            ordered = 0;
            for (int k = 0; k < count; k++) {
                if (parts[k].how != FIXED) {
                    order[ordered] = k;
                    ordered++;
                }
            }
        }

        boolean mayBeOrder(Rack rack) {
            for (int i = 0; i < rack.size; i++) {
                int part = rack.places[i];
                if (part == NONE) continue;
                if (parts[part].how == FIXED || rack.firstPlaceOf(part) != i) return false;
            }
            return true;
        }

        void orderBy(Rack rack) {
            ordered = 0;
            for (int i = 0; i < rack.size; i++) {
                if (rack.places[i] != NONE) {
                    order[ordered] = rack.places[i];
                    ordered++;
                }
            }
        }

        void exchange(int i, int j) {
            int part = order[i];
            order[i] = order[j];
            order[j] = part;
        }

        int segments() {
            int many = 1;
            for (int c = 1; c < wide; c++) {
                if (sky[c] != sky[c - 1]) many++;
            }
            return many;
        }

        /** The first column of the k-th segment, or NONE. */
        int segmentStart(int k) {
            int from = 0;
            for (int seen = 0; seen < k && from < wide; seen++) from = segmentEnd(from);
            return from < wide ? from : NONE;
        }

        /** The first column behind the segment in which a column is. */
        int segmentEnd(int from) {
            int to = from + 1;
            while (to < wide && sky[to] == sky[from]) to++;
            return to;
        }

        /** The highest upper edge of the fixed parts that a rectangle would lie over, or NONE. */
        int topOfFixedIn(int x, int y, int across, int tall) {
            int top = NONE;
            for (int k = 0; k < count; k++) {
                Part p = parts[k];
                if (p.how != FIXED) continue;
                boolean inColumns = p.x < x + across && x < p.x + p.across;
                boolean inHeights = p.y < y + tall && y < p.y + p.tall;
                if (inColumns && inHeights && p.y + p.tall > top) top = p.y + p.tall;
            }
            return top;
        }

        /** The y that a part of so many columns and heights would have at x. */
        int restingY(int x, int across, int tall) {
            int y = 0;
            for (int c = x; c < x + across; c++) {
                if (sky[c] > y) y = sky[c];
            }
            // each round goes past a fixed part for good, so there are no more rounds than parts
            for (int round = 0; round < MOST_PARTS; round++) {
                int top = topOfFixedIn(x, y, across, tall);
                if (top == NONE) break;
                y = top;
            }
            return y;
        }

        int wastedAt(int x, int y, int across) {
            int wasted = 0;
            for (int c = x; c < x + across; c++) wasted += y - sky[c];
            return wasted;
        }

        int touchingAt(int x, int y, int across, int tall) {
            int touching = 0;
            for (int c = x; c < x + across; c++) {
                if (sky[c] == y) touching++;
            }
            for (int side = 0; side < 2; side++) {
                int column = side == 0 ? x - 1 : x + across;
                int high = column < 0 || column >= wide ? tall : sky[column] - y;
                if (high > 0) touching += high < tall ? high : tall;
            }
            return touching;
        }

        int costByRule(int x, int y, int across, int tall, int wasted) {
            switch (rule) {
                case RULE_WASTED: return wasted;
                case RULE_UPPER_EDGE: return y + tall;
                case RULE_TOUCHING: return -touchingAt(x, y, across, tall);
                default: return y;
            }
        }

        /** Raises the skyline over what has been laid onto it, and keeps what is lost below as waste. */
        void raise(int x, int y, int across, int tall) {
            int end = x + across;
            int from = x;
            for (int c = x; c < end; c++) {
                int low = sky[c];
                if (c + 1 < end && sky[c + 1] == low) continue;
                int wasted = c + 1 - from;
                if (topOfFixedIn(from, low, wasted, y - low) == NONE) waste.add(from, low, wasted, y - low);
                from = c + 1;
            }
            Arrays.fill(sky, x, end, y + tall);
        }

        int area() {
            int area = 0;
            for (int k = 0; k < count; k++) {
                Part p = parts[k];
                if (p.lies()) area += p.across * p.tall;
            }
            return area;
        }

        /** The centre's height, or its x; only to be asked if something lies. */
        float middle(boolean upwards) {
            float mass = 0f;
            float sum = 0f;
            for (int k = 0; k < count; k++) {
                Part p = parts[k];
                if (!p.lies()) continue;
                float area = (float) (p.across * p.tall);
                float start = (float) (upwards ? p.y : p.x);
                float size = (float) (upwards ? p.tall : p.across);
                mass = mass + area;
                sum = sum + area * (start + size / 2f);
            }
            return mass > 0f ? sum / mass : 0f;
        }

        /** Only to be asked if something lies. */
        float fill() {
            float room = (float) (wide * top());
            return room > 0f ? (float) area() / room : 0f;
        }

        int unlikeParts() {
            int unlike = 0;
            for (int k = 0; k < count; k++) {
                boolean isNew = true;
                for (int before = 0; before < k; before++) {
                    if (parts[before].isLike(parts[k])) isNew = false;
                }
                if (isNew) unlike++;
            }
            return unlike;
        }

        int unlikeOrders() {
            int orders = 1;
            for (int k = 0; k < ordered; k++) {
                int alike = 1;
                for (int before = 0; before < k; before++) {
                    if (parts[order[before]].isLike(parts[order[k]])) alike++;
                }
                // what stands so far is the number for the first k parts, so this goes without a rest
                orders = orders * (k + 1) / alike;
            }
            return orders;
        }
    }

    /** Where a part would be laid. */
    private static final class Spot {
        boolean found;
        int x;
        int y;
        boolean turned;
        /** The rectangle of waste that it lies in, or NONE. */
        int rectangle;
        /** What it is chosen by: the less, the better. */
        int cost;

        void take(int itsX, int itsY, boolean over, int itsRectangle, int itsCost) {
            found = true;
            x = itsX;
            y = itsY;
            turned = over;
            rectangle = itsRectangle;
            cost = itsCost;
        }
    }

    /** Lays parts. */
    private static final class Layer {
        final Spot spot = new Spot();

        /** How many parts of the order are laid. */
        int runAll(Plan plan) {
            int many = 0;
            plan.clearLaid();
            for (int k = 0; k < plan.ordered; k++) {
                Part part = plan.parts[plan.order[k]];
                // not by layOne: that would be one more call that stands open
                find(plan, part);
                if (spot.found) {
                    settle(plan, part);
                    many++;
                }
            }
            return many;
        }

        boolean layOne(Plan plan, Part part) {
            find(plan, part);
            if (spot.found) settle(plan, part);
            return spot.found;
        }

        void find(Plan plan, Part part) {
            spot.found = false;
            if (plan.usesWaste) findInWaste(plan, part);
            if (!spot.found) findOnSkyline(plan, part);
        }

        private void findInWaste(Plan plan, Part part) {
            Waste waste = plan.waste;
            int ways = part.ways(plan.wide);
            for (int k = 0; k < waste.size; k++) {
                for (int way = 0; way < ways; way++) {
                    boolean over = way == 1;
                    int across = part.acrossIf(over);
                    int tall = part.tallIf(over);
                    if (across > waste.w[k] || tall > waste.h[k]) continue;
                    if (!part.mayLieAt(waste.x[k], waste.y[k], 0)) continue;
                    int left = waste.w[k] * waste.h[k] - across * tall;
                    if (!spot.found || left < spot.cost) spot.take(waste.x[k], waste.y[k], over, k, left);
                }
            }
        }

        private void findOnSkyline(Plan plan, Part part) {
            int ways = part.ways(plan.wide);
            for (int x = 0; x < plan.wide; x++) {
                for (int way = 0; way < ways; way++) {
                    boolean over = way == 1;
                    int across = part.acrossIf(over);
                    int tall = part.tallIf(over);
                    if (x + across > plan.wide) continue;
                    int y = plan.restingY(x, across, tall);
                    int wasted = plan.wastedAt(x, y, across);
                    if (!part.mayLieAt(x, y, wasted)) continue;
                    int cost = plan.costByRule(x, y, across, tall, wasted);
                    // x and the way are told in their order, so the first of equals stays
                    boolean better = !spot.found || cost < spot.cost || (cost == spot.cost && y < spot.y);
                    if (better) spot.take(x, y, over, NONE, cost);
                }
            }
        }

        private void settle(Plan plan, Part part) {
            boolean inWaste = spot.rectangle != NONE;
            part.lieAt(spot.x, spot.y, spot.turned, inWaste ? IN_WASTE : ON_SKYLINE);
            if (inWaste) {
                plan.waste.takeCorner(spot.rectangle, part.across, part.tall);
            } else {
                plan.raise(part.x, part.y, part.across, part.tall);
            }
        }
    }

    /** The bytes fed, and the items that they are. */
    private static final class Tape {
        final int[] bytes = new int[TAPE_ROOM];
        int size = 0;
        /** The parts read; more than these are counted, but find no room anyway. */
        final Part[] items = new Part[MOST_PARTS];
        private int read;
        /** The place of the byte that is looked at; by a fault, that of the fault. */
        private int at;

        Tape() {
            for (int k = 0; k < MOST_PARTS; k++) items[k] = new Part();
        }

        void append(int value) {
            if (size >= TAPE_ROOM) return;
            bytes[size] = value;
            size++;
        }

        /** How many parts the items are, or -100 less the place of the fault. */
        int read(int wide) {
            at = 0;
            read = 0;
            for (int item = 0; item < TAPE_ROOM; item++) {
                skipBlanks();
                if (item > 0 && at >= size) break;
                if (!readItem(wide)) return FAULT - at;
            }
            return read;
        }

        private int look() {
            return at < size ? bytes[at] : NONE;
        }

        private void skipBlanks() {
            while (at < size && (bytes[at] == 32 || bytes[at] == 10)) at++;
        }

        private boolean readItem(int wide) {
            int kind = kindOf(look());
            if (kind == NONE) return false;
            at++;
            int w = readWidth(wide);
            if (w == 0) return false;
            if (look() != 'x') return false;
            at++;
            int h = readFigure();
            if (h == 0) return false;
            int figure = readMarked(':');
            if (figure == 0) return false;
            int copies = readMarked('*');
            if (copies == 0) return false;
            for (int k = 0; k < copies; k++) {
                if (read < MOST_PARTS) items[read].begin(kind, w, h, figure);
                read++;
            }
            return true;
        }

        private static int kindOf(int letter) {
            switch (letter) {
                case 'p': return 0;
                case 't': return 1;
                case 'g': return 2;
                case 'c': return 3;
                case 's': return 4;
                case 'h': return 5;
                default: return NONE;
            }
        }

        private boolean isDigit() {
            return look() >= '0' && look() <= '9';
        }

        /** 0 by a fault, which is the first digit if the width is one that can't be. */
        private int readWidth(int wide) {
            int first = at;
            int w = 0;
            for (int k = 0; k < 2 && isDigit(); k++) {
                w = 10 * w + bytes[at] - '0';
                at++;
            }
            if (w >= 1 && w <= wide) return w;
            at = first;
            return 0;
        }

        /** 0 by a fault. */
        private int readFigure() {
            if (!isDigit() || look() == '0') return 0;
            int figure = look() - '0';
            at++;
            return figure;
        }

        /** 1 if the mark does not stand here; 0 by a fault behind it. */
        private int readMarked(char mark) {
            if (look() != mark) return 1;
            at++;
            return readFigure();
        }
    }

    /** What the parts of the order and the fixed ones can't do better than. */
    private static final class Bounds {
        private static final int AREAS = 0, TALLEST = 1, HALF_WIDE = 2, LAST_SHARED = 6, CUT_OFF = 7;

        static int of(Plan plan, int which) {
            if (which != BOUNDS - 1) return single(plan, which);
            int greatest = 0;
            for (int k = 0; k < BOUNDS - 1; k++) greatest = Math.max(greatest, single(plan, k));
            return greatest;
        }

        private static int single(Plan plan, int which) {
            if (which == TALLEST) return tallest(plan);
            if (which != CUT_OFF) return together(plan, which, 0);
            int greatest = 0;
            for (int e = 1; e <= plan.wide / 2; e++) greatest = Math.max(greatest, together(plan, which, e));
            return greatest;
        }

        private static int tallest(Plan plan) {
            int most = 0;
            for (int k = 0; k < plan.count; k++) {
                Part p = plan.parts[k];
                if (p.how == FIXED) {
                    most = Math.max(most, p.y + p.tall);
                } else if (plan.isInOrder(k)) {
                    int tall = p.tallIf(false);
                    if (p.ways(plan.wide) == 2) tall = Math.min(tall, p.tallIf(true));
                    most = Math.max(most, tall);
                }
            }
            return most;
        }

        private static int together(Plan plan, int which, int e) {
            int sum = 0;
            for (int k = 0; k < plan.count; k++) {
                Part p = plan.parts[k];
                if (p.how != FIXED && !plan.isInOrder(k)) continue;
                int counts = weight(which, e, p.w, plan.wide) * p.tallIf(false);
                if (p.how != FIXED && p.ways(plan.wide) == 2) {
                    counts = Math.min(counts, weight(which, e, p.h, plan.wide) * p.tallIf(true));
                }
                sum += counts;
            }
            int by = which == HALF_WIDE ? 1 : plan.wide;
            if (isShared(which)) by = shares(which) * plan.wide;
            return (sum + by - 1) / by;
        }

        private static boolean isShared(int which) {
            return which > HALF_WIDE && which <= LAST_SHARED;
        }

        /** The k of the bounds 3 .. 6. */
        private static int shares(int which) {
            return which - HALF_WIDE;
        }

        /** What each of a part's heights counts, by the columns that it takes. */
        private static int weight(int which, int e, int across, int wide) {
            if (which == AREAS) return across;
            if (which == HALF_WIDE) return 2 * across > wide ? 1 : 0;
            if (isShared(which)) {
                int k = shares(which);
                int times = (k + 1) * across;
                return times % wide == 0 ? k * across : times / wide * wide;
            }
            if (across > wide - e) return wide;
            return across >= e ? across : 0;
        }
    }

    /** Tries all orders of the parts of a plan in thought, five at most. */
    private static final class Search {
        final int[] bestOrder = new int[MOST_SEARCHED];
        /** NONE if no order lays all. */
        int bestTop;
        /** How many unlike layouts there are; each a row of numbers, and how many orders come to it. */
        int unlike;
        private final int[] alike = new int[ORDERS_SEARCHED];
        private final int[] rows = new int[ORDERS_SEARCHED * MOST_PARTS];
        private final int[] seen = new int[MOST_PARTS];
        private final int[] mirrored = new int[MOST_PARTS];
        private int size;

        void findBest(Plan plan, Layer layer) {
            bestTop = NONE;
            sort(plan.order, plan.ordered);
            for (int turn = 0; turn < ORDERS_SEARCHED; turn++) {
                boolean all = layer.runAll(plan) == plan.ordered;
                if (all && (bestTop == NONE || plan.top() < bestTop)) {
                    bestTop = plan.top();
                    System.arraycopy(plan.order, 0, bestOrder, 0, plan.ordered);
                }
                if (!goToNextOrder(plan)) break;
            }
        }

        void findLayouts(Plan plan, Layer layer) {
            unlike = 0;
            sort(plan.order, plan.ordered);
            for (int turn = 0; turn < ORDERS_SEARCHED; turn++) {
                if (layer.runAll(plan) == plan.ordered) {
                    readLayout(plan);
                    countLayout();
                }
                if (!goToNextOrder(plan)) break;
            }
        }

        int mostAlike() {
            int most = 0;
            for (int k = 0; k < unlike; k++) most = Math.max(most, alike[k]);
            return most;
        }

        /** The next one by numbers; false if this was the last. */
        private boolean goToNextOrder(Plan plan) {
            int[] order = plan.order;
            int at = plan.ordered - 2;
            while (at >= 0 && order[at] > order[at + 1]) at--;
            if (at < 0) return false;
            int other = plan.ordered - 1;
            while (other > at && order[other] < order[at]) other--;
            plan.exchange(at, other);
            int from = at + 1;
            int to = plan.ordered - 1;
            while (from < to) {
                plan.exchange(from, to);
                from++;
                to--;
            }
            return true;
        }

        /** Of the layout and the strip turned over, that which is the first by its numbers. */
        private void readLayout(Plan plan) {
            size = 0;
            for (int k = 0; k < plan.count; k++) {
                Part p = plan.parts[k];
                if (!p.lies()) continue;
                seen[size] = numberOf(p, p.x);
                mirrored[size] = numberOf(p, plan.wide - p.x - p.across);
                size++;
            }
            sort(seen, size);
            sort(mirrored, size);
            int at = 0;
            while (at < size && seen[at] == mirrored[at]) at++;
            if (at < size && mirrored[at] < seen[at]) System.arraycopy(mirrored, 0, seen, 0, size);
        }

        /** A rectangle as one number: none of its four is so great that two would come to the same. */
        private static int numberOf(Part p, int x) {
            return ((p.y * 32 + x) * 32 + p.across) * 32 + p.tall;
        }

        private void countLayout() {
            for (int k = 0; k < unlike; k++) {
                if (isRow(k)) {
                    alike[k]++;
                    return;
                }
            }
            if (unlike >= ORDERS_SEARCHED) return;
            System.arraycopy(seen, 0, rows, unlike * MOST_PARTS, size);
            alike[unlike] = 1;
            unlike++;
        }

        private boolean isRow(int k) {
            for (int i = 0; i < size; i++) {
                if (rows[k * MOST_PARTS + i] != seen[i]) return false;
            }
            return true;
        }

        private static void sort(int[] row, int size) {
            for (int k = 1; k < size; k++) {
                int value = row[k];
                int at = k;
                while (at > 0 && row[at - 1] > value) {
                    row[at] = row[at - 1];
                    at--;
                }
                row[at] = value;
            }
        }
    }

    /** Takes what lies apart by straight cuts. */
    private static final class Cuts {
        /** Where each rectangle begins and ends: by x, by which lines that go up cut, and by y. */
        private final int[] left = new int[MOST_PARTS];
        private final int[] right = new int[MOST_PARTS];
        private final int[] lower = new int[MOST_PARTS];
        private final int[] upper = new int[MOST_PARTS];
        /** The piece of each rectangle, told by the least number of its rectangles. */
        private final int[] piece = new int[MOST_PARTS];
        /** The last line ahead of each rectangle in its piece. */
        private final int[] line = new int[MOST_PARTS];
        private int many;

        void takeFrom(Plan plan) {
            many = 0;
            for (int k = 0; k < plan.count; k++) {
                Part p = plan.parts[k];
                if (!p.lies()) continue;
                left[many] = p.x;
                right[many] = p.x + p.across;
                lower[many] = p.y;
                upper[many] = p.y + p.tall;
                many++;
            }
        }

        int leastStages() {
            if (many <= 1) return 0;
            int up = stagesFrom(true);
            int across = stagesFrom(false);
            if (up == NONE) return across;
            return across == NONE ? up : Math.min(up, across);
        }

        private int stagesFrom(boolean up) {
            Arrays.fill(piece, 0);
            int pieces = 1;
            boolean way = up;
            // each stage that is one makes a piece more, so there are fewer than rectangles
            for (int stage = 1; stage < MOST_PARTS; stage++) {
                int now = way ? cut(left, right) : cut(lower, upper);
                if (now == many) return stage;
                if (now == pieces) return NONE;
                pieces = now;
                way = !way;
            }
            return NONE;
        }

        /** Cuts all pieces one way; how many there are then. */
        private int cut(int[] starts, int[] ends) {
            for (int k = 0; k < many; k++) {
                int last = NONE;
                for (int i = 0; i < many; i++) {
                    boolean ahead = piece[i] == piece[k] && starts[i] <= starts[k];
                    if (ahead && starts[i] > last && isFree(piece[k], starts[i], starts, ends)) last = starts[i];
                }
                line[k] = last;
            }
            return numberPieces();
        }

        private boolean isFree(int inPiece, int at, int[] starts, int[] ends) {
            for (int i = 0; i < many; i++) {
                if (piece[i] == inPiece && starts[i] < at && at < ends[i]) return false;
            }
            return true;
        }

        private int numberPieces() {
            int pieces = 0;
            // from the last on, so that the old numbers ahead are still there to be compared
            for (int k = many - 1; k >= 0; k--) {
                int first = k;
                for (int i = k - 1; i >= 0; i--) {
                    if (piece[i] == piece[k] && line[i] == line[k]) first = i;
                }
                if (first == k) pieces++;
                piece[k] = first;
            }
            return pieces;
        }
    }

    /** A row of parts, made for a kind and those under it. */
    private static final class Rack {
        final int[] places = new int[MOST_PARTS];
        private int kind = NONE;
        int size = 0;

        boolean isMissing() {
            return kind == NONE;
        }

        void begin(int itsKind, int n) {
            kind = itsKind;
            size = n;
            empty();
        }

        void empty() {
            Arrays.fill(places, NONE);
        }

        boolean takes(Plan plan, int part) {
            return part == NONE || (plan.isPart(part) && isUnder(plan.parts[part].kind, kind));
        }

        int firstPlaceOf(int part) {
            for (int i = 0; i < size; i++) {
                if (places[i] == part) return i;
            }
            return NONE;
        }
    }

    /** A row of numbers. */
    private static final class Sheet {
        final int[] items = new int[SHEET_ROOM];
        int sort = NONE;
        int size = 0;

        boolean isMissing() {
            return sort == NONE;
        }

        void begin(int itsSort, int n) {
            sort = itsSort;
            size = n;
            Arrays.fill(items, 0);
        }

        /** The first place at which it tells the skyline otherwise, or NONE. */
        int firstUnlike(Plan plan) {
            int both = Math.min(size, plan.wide);
            for (int k = 0; k < both; k++) {
                if (items[k] != plan.sky[k]) return k;
            }
            return size == plan.wide ? NONE : both;
        }
    }
}
