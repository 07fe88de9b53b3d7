import java.util.ArrayList;
import java.util.Arrays;
import java.util.Collections;
import java.util.Comparator;
import java.util.HashMap;
import java.util.HashSet;
import java.util.List;
import java.util.Map;
import java.util.Set;
import java.util.TreeSet;
import java.util.regex.Matcher;
import java.util.regex.Pattern;

/**
 * The document once more, slowly and in another way than the class does it: cells instead of rectangles, sorted
 * lists of candidates instead of a search, regular expressions instead of a reader. Only for comparing.
 */
final class Model {
    static final int NONE = -1, BAD = -2, STATE = -3, FULL = -4;
    private static final String LETTERS = "ptgcsh";
    private static final String[] UNDER = {"0", "01", "02", "013", "024", "05"};
    private static final Pattern ITEMS =
            Pattern.compile("[ \n]*(?:[ptgcsh]\\d{1,2}x[1-9](?::[1-9])?(?:\\*[1-9])?[ \n]*)+");
    private static final Pattern ITEM = Pattern.compile("([ptgcsh])(\\d{1,2})x([1-9])(?::([1-9]))?(?:\\*([1-9]))?");

    record Kind(int kind, int w, int h, int figure) {
        boolean isUnder(int base) {
            return UNDER[kind].indexOf('0' + base) >= 0;
        }

        Rect at(int x, int y, boolean over) {
            return new Rect(x, y, over ? h : w, (over ? w : h) + (isUnder(3) ? 1 : 0));
        }

        List<Boolean> ways(int wide) {
            return isUnder(1) && h <= wide ? List.of(false, true) : List.of(false);
        }
    }

    record Rect(int x, int y, int w, int t) {
        Set<Integer> cells() {
            Set<Integer> cells = new HashSet<>();
            for (int c = x; c < x + w; c++) for (int r = y; r < y + t; r++) cells.add(1000 * c + r);
            return cells;
        }
    }

    /** How a part lies: 1 fixed, 2 on the skyline, 3 in waste. */
    record Lie(Rect rect, boolean over, int how) { }

    record Place(Rect rect, boolean over, Rect waste, int cost) { }

    /** What an image keeps. */
    static final class World {
        int wide = 10;
        int rule = 0;
        int usesWaste = 1;
        List<Kind> parts = new ArrayList<>();
        Map<Integer, Lie> lies = new HashMap<>();
        List<Integer> order = new ArrayList<>();
        int[] sky = new int[10];
        List<Rect> waste = new ArrayList<>();

        World copy() {
            World w = new World();
            w.wide = wide;
            w.rule = rule;
            w.usesWaste = usesWaste;
            w.parts = new ArrayList<>(parts);
            w.lies = new HashMap<>(lies);
            w.order = new ArrayList<>(order);
            w.sky = sky.clone();
            w.waste = new ArrayList<>(waste);
            return w;
        }

        void clear() {
            lies.values().removeIf(l -> l.how() != 1);
            sky = new int[wide];
            waste.clear();
        }

        Set<Integer> fixedCells() {
            Set<Integer> cells = new HashSet<>();
            for (Lie l : lies.values()) if (l.how() == 1) cells.addAll(l.rect().cells());
            return cells;
        }

        int top() {
            int top = Arrays.stream(sky).max().getAsInt();
            for (Lie l : lies.values()) if (l.how() == 1) top = Math.max(top, l.rect().y() + l.rect().t());
            return top;
        }

        List<Rect> segments() {
            List<Rect> all = new ArrayList<>();
            int from = 0;
            for (int c = 1; c <= wide; c++) {
                if (c < wide && sky[c] == sky[from]) continue;
                all.add(new Rect(from, sky[from], c - from, 0));
                from = c;
            }
            return all;
        }

        boolean may(Kind k, int x, int y, int wasted) {
            if (k.isUnder(2) && x % k.figure() != 0) return false;
            if (k.isUnder(4) && y % k.figure() != 0) return false;
            return !k.isUnder(5) || wasted < k.figure();
        }

        Place find(int part) {
            Kind k = parts.get(part);
            List<Place> all = new ArrayList<>();
            if (usesWaste == 1) {
                for (Rect r : waste) {
                    for (boolean over : k.ways(wide)) {
                        Rect at = k.at(r.x(), r.y(), over);
                        if (at.w() > r.w() || at.t() > r.t() || !may(k, r.x(), r.y(), 0)) continue;
                        all.add(new Place(at, over, r, r.w() * r.t() - at.w() * at.t()));
                    }
                }
            }
            Comparator<Place> byCost = Comparator.comparingInt(Place::cost);
            Comparator<Place> rest = byCost.thenComparing(p -> p.rect().y()).thenComparing(p -> p.rect().x())
                    .thenComparing(Place::over);
            if (!all.isEmpty()) return Collections.min(all, rest);
            for (boolean over : k.ways(wide)) {
                for (int x = 0; x + k.at(0, 0, over).w() <= wide; x++) {
                    Rect at = rest(k, x, over);
                    int wasted = 0;
                    for (int c = x; c < x + at.w(); c++) wasted += at.y() - sky[c];
                    if (may(k, x, at.y(), wasted)) all.add(new Place(at, over, null, cost(at, wasted)));
                }
            }
            return all.isEmpty() ? null : Collections.min(all, rest);
        }

        Rect rest(Kind k, int x, boolean over) {
            Set<Integer> fixed = fixedCells();
            for (int y = 0; ; y++) {
                Rect at = k.at(x, y, over);
                boolean free = Collections.disjoint(at.cells(), fixed);
                for (int c = x; c < x + at.w(); c++) if (sky[c] > y) free = false;
                if (free) return at;
            }
        }

        int cost(Rect at, int wasted) {
            if (rule == 0) return at.y();
            if (rule == 1) return wasted;
            if (rule == 2) return at.y() + at.t();
            int touching = 0;
            for (int c = at.x(); c < at.x() + at.w(); c++) if (sky[c] == at.y()) touching++;
            for (int side : new int[] {at.x() - 1, at.x() + at.w()}) {
                for (int r = at.y(); r < at.y() + at.t(); r++) {
                    if (side < 0 || side >= wide || r < sky[side]) touching++;
                }
            }
            return -touching;
        }

        boolean lay(int part) {
            Place p = find(part);
            if (p == null) return false;
            Rect r = p.rect();
            lies.put(part, new Lie(r, p.over(), p.waste() == null ? 2 : 3));
            if (p.waste() != null) {
                Rect w = p.waste();
                waste.remove(w);
                keep(new Rect(r.x() + r.w(), w.y(), w.w() - r.w(), w.t()));
                keep(new Rect(r.x(), r.y() + r.t(), r.w(), w.t() - r.t()));
                return true;
            }
            Set<Integer> fixed = fixedCells();
            for (Rect s : segments()) {
                int from = Math.max(s.x(), r.x());
                int to = Math.min(s.x() + s.w(), r.x() + r.w());
                if (from >= to || s.y() >= r.y()) continue;
                Rect lost = new Rect(from, s.y(), to - from, r.y() - s.y());
                if (Collections.disjoint(lost.cells(), fixed)) keep(lost);
            }
            for (int c = r.x(); c < r.x() + r.w(); c++) sky[c] = r.y() + r.t();
            return true;
        }

        void keep(Rect r) {
            if (r.w() < 1 || r.t() < 1) return;
            waste.add(r);
            waste.sort(Comparator.comparingInt(Rect::y).thenComparingInt(Rect::x));
        }

        int run() {
            clear();
            int laid = 0;
            for (int part : order) if (lay(part)) laid++;
            return laid;
        }

        int runBy(List<Integer> other) {
            order = new ArrayList<>(other);
            return run();
        }

        List<Rect> rects() {
            List<Rect> all = new ArrayList<>();
            for (int k = 0; k < parts.size(); k++) if (lies.containsKey(k)) all.add(lies.get(k).rect());
            return all;
        }
    }

    private World world = new World();
    private World image = null;
    private String tape = "";
    private final int[] rackKind = {NONE, NONE, NONE, NONE};
    private final List<List<Integer>> racks = new ArrayList<>();
    private final int[] sheetSort = {NONE, NONE, NONE, NONE};
    private final int[][] sheets = new int[4][];

    Model() {
        for (int k = 0; k < 4; k++) racks.add(new ArrayList<>());
    }

    private boolean none(int part) {
        return part < 0 || part >= world.parts.size();
    }

    private static boolean holds(int k) {
        return k >= 0 && k <= 3;
    }

    int feed(int n, int... row) {
        if (n < 1 || n > 5) return BAD;
        for (int b : row) if (b < 0 || b > 255) return BAD;
        if (tape.length() + n > 60) return FULL;
        for (int k = 0; k < n; k++) tape += (char) row[k];
        return tape.length();
    }

    int strip(int wide) {
        if (wide < 1 || wide > 20) return BAD;
        int was = world.wide;
        World fresh = new World();
        fresh.wide = wide;
        fresh.sky = new int[wide];
        fresh.rule = world.rule;
        fresh.usesWaste = world.usesWaste;
        world = fresh;
        for (List<Integer> r : racks) Collections.fill(r, NONE);
        return was;
    }

    int parts() {
        String text = tape;
        tape = "";
        int fault = fault(text);
        if (fault != NONE) return -100 - fault;
        List<Kind> come = new ArrayList<>();
        Matcher m = ITEM.matcher(text);
        while (m.find()) {
            int figure = m.group(4) == null ? 1 : Integer.parseInt(m.group(4));
            int many = m.group(5) == null ? 1 : Integer.parseInt(m.group(5));
            Kind k = new Kind(LETTERS.indexOf(m.group(1)), Integer.parseInt(m.group(2)), Integer.parseInt(m.group(3)), figure);
            for (int c = 0; c < many; c++) come.add(k);
        }
        if (world.parts.size() + come.size() > 10) return FULL;
        world.parts.addAll(come);
        return world.parts.size();
    }

    /** The longest beginning from which something could still come of it, then widths in it that can't be. */
    private int fault(String text) {
        int fault = NONE;
        for (int size = 1; size <= text.length() && fault == NONE; size++) {
            Matcher m = ITEMS.matcher(text.substring(0, size));
            if (!m.matches() && !m.hitEnd()) fault = size - 1;
        }
        if (fault == NONE && !ITEMS.matcher(text).matches()) fault = text.length();
        int end = fault == NONE ? text.length() : fault;
        for (int k = 0; k < end; k++) {
            if (LETTERS.indexOf(text.charAt(k)) < 0) continue;
            Matcher m = Pattern.compile("\\d{1,2}").matcher(text).region(k + 1, text.length());
            if (!m.lookingAt()) continue;
            int w = Integer.parseInt(m.group());
            if (w < 1 || w > world.wide) return k + 1;
        }
        return fault;
    }

    int told(int part, int what) {
        if (none(part) || what < 0 || what > 7) return BAD;
        Kind k = world.parts.get(part);
        Lie l = world.lies.get(part);
        int[] all = {k.kind(), k.w(), k.h(), k.figure(), NONE, NONE, NONE, 0};
        if (l != null) {
            all[4] = l.rect().x();
            all[5] = l.rect().y();
            all[6] = l.over() ? 1 : 0;
            all[7] = l.how();
        }
        return all[what];
    }

    int taken(int part, int k) {
        if (none(part) || k < 0 || k > 5) return BAD;
        Kind p = world.parts.get(part);
        return p.isUnder(k) ? p.at(0, 0, false).cells().size() : -13;
    }

    int fix(int part, int x, int y) {
        if (none(part) || x < -1 || x > 19) return BAD;
        if (x != NONE && (y < 0 || y > 60)) return BAD;
        for (Lie l : world.lies.values()) if (l.how() != 1) return STATE;
        if (world.order.contains(part)) return STATE;
        if (x == NONE) return world.lies.remove(part) == null ? STATE : 1;
        if (world.lies.containsKey(part)) return STATE;
        Rect r = world.parts.get(part).at(x, y, false);
        if (r.x() + r.w() > world.wide) return -12;
        if (!Collections.disjoint(r.cells(), world.fixedCells())) return -15;
        world.lies.put(part, new Lie(r, false, 1));
        return 1;
    }

    int order(int rack) {
        if (rack != NONE && !holds(rack)) return BAD;
        List<Integer> come = new ArrayList<>();
        if (rack == NONE) {
            for (int k = 0; k < world.parts.size(); k++) {
                if (!world.lies.containsKey(k) || world.lies.get(k).how() != 1) come.add(k);
            }
        } else {
            if (rackKind[rack] == NONE) return -11;
            for (int p : racks.get(rack)) if (p != NONE) come.add(p);
            if (new HashSet<>(come).size() < come.size()) return STATE;
            for (int p : come) if (told(p, 7) == 1) return STATE;
        }
        world.order = come;
        return come.size();
    }

    int swap(int i, int j) {
        int n = world.order.size();
        if (i < 0 || j < 0 || i >= n || j >= n) return -12;
        Collections.swap(world.order, i, j);
        return world.order.get(i);
    }

    int rule(int rule, int waste) {
        if (rule < 0 || rule > 3 || waste < 0 || waste > 1) return BAD;
        int was = 2 * world.rule + world.usesWaste;
        world.rule = rule;
        world.usesWaste = waste;
        return was;
    }

    int place(int part, int what) {
        if (none(part) || what < 0 || what > 3) return BAD;
        if (world.lies.containsKey(part)) return STATE;
        Place p = world.find(part);
        if (p == null) return NONE;
        return new int[] {p.rect().x(), p.rect().y(), p.over() ? 1 : 0, p.waste() == null ? 0 : 1}[what];
    }

    int lay(int part) {
        if (part == NONE) {
            world.clear();
            return 0;
        }
        if (none(part)) return BAD;
        if (world.lies.containsKey(part)) return STATE;
        return world.lay(part) ? world.lies.get(part).rect().y() : NONE;
    }

    int run() {
        return world.run();
    }

    int sky(int k, int what) {
        if (what < 0 || what > 2) return BAD;
        List<Rect> all = world.segments();
        if (k == NONE) return all.size();
        if (k < 0 || k >= all.size()) return -12;
        return new int[] {all.get(k).x(), all.get(k).w(), all.get(k).y()}[what];
    }

    int waste(int k, int what) {
        if (what < 0 || what > 3) return BAD;
        if (k == NONE) return world.waste.size();
        if (k < 0 || k >= world.waste.size()) return -12;
        Rect r = world.waste.get(k);
        return new int[] {r.x(), r.y(), r.w(), r.t()}[what];
    }

    private static int up(int a, int b) {
        return (int) Math.ceil((double) a / b);
    }

    private int counts(int which, int e, Rect r) {
        int wide = world.wide;
        if (which == 0) return r.w() * r.t();
        if (which == 1) return r.t();
        if (which == 2) return 2 * r.w() > wide ? r.t() : 0;
        if (which == 7) return (r.w() > wide - e ? wide : r.w() >= e ? r.w() : 0) * r.t();
        int k = which - 2;
        if ((k + 1) * r.w() % wide == 0) return k * r.w() * r.t();
        return wide * Math.floorDiv((k + 1) * r.w(), wide) * r.t();
    }

    private int bound(int which, int e) {
        List<Integer> all = new ArrayList<>();
        for (int k = 0; k < world.parts.size(); k++) {
            Lie l = world.lies.get(k);
            if (l != null && l.how() == 1) {
                all.add(which == 1 ? l.rect().y() + l.rect().t() : counts(which, e, l.rect()));
            } else if (world.order.contains(k)) {
                Kind kind = world.parts.get(k);
                all.add(kind.ways(world.wide).stream().mapToInt(o -> counts(which, e, kind.at(0, 0, o))).min().getAsInt());
            }
        }
        if (which == 1) return all.isEmpty() ? 0 : Collections.max(all);
        int sum = all.stream().mapToInt(v -> v).sum();
        if (which == 2) return sum;
        return up(sum, which == 0 || which == 7 ? world.wide : (which - 2) * world.wide);
    }

    int bound(int which) {
        if (which < 0 || which > 8) return BAD;
        int most = 0;
        for (int b = 0; b < 8; b++) {
            if (b != which && which != 8) continue;
            if (b < 7) most = Math.max(most, bound(b, 0));
            for (int e = 1; b == 7 && e <= world.wide / 2; e++) most = Math.max(most, bound(7, e));
        }
        return most;
    }

    private static void orders(List<Integer> left, List<Integer> taken, List<List<Integer>> all) {
        if (left.isEmpty()) all.add(new ArrayList<>(taken));
        for (int part : left) {
            List<Integer> rest = new ArrayList<>(left);
            rest.remove(Integer.valueOf(part));
            taken.add(part);
            orders(rest, taken, all);
            taken.remove(taken.size() - 1);
        }
    }

    private List<List<Integer>> orders() {
        List<List<Integer>> all = new ArrayList<>();
        orders(new ArrayList<>(new TreeSet<>(world.order)), new ArrayList<>(), all);
        return all;
    }

    int best(int k) {
        int n = world.order.size();
        if (n > 5) return STATE;
        if (k < -1 || k >= n) return -12;
        int top = Integer.MAX_VALUE;
        List<Integer> best = null;
        for (List<Integer> order : orders()) {
            World w = world.copy();
            if (w.runBy(order) < n || w.top() >= top) continue;
            top = w.top();
            best = order;
        }
        if (best == null) return NONE;
        return k == NONE ? top : best.get(k);
    }

    int layouts(int what) {
        if (what < 0 || what > 1) return BAD;
        if (world.order.size() > 5) return STATE;
        Map<Set<Set<Rect>>, Integer> all = new HashMap<>();
        for (List<Integer> order : orders()) {
            World w = world.copy();
            if (w.runBy(order) < order.size()) continue;
            Set<Rect> as = new HashSet<>(w.rects());
            Set<Rect> over = new HashSet<>();
            for (Rect r : as) over.add(new Rect(w.wide - r.x() - r.w(), r.y(), r.w(), r.t()));
            all.merge(Set.copyOf(List.of(as, over)), 1, Integer::sum);
        }
        return what == 0 ? all.size() : all.values().stream().mapToInt(v -> v).max().orElse(0);
    }

    private static int stages(List<Rect> piece, boolean up) {
        if (piece.size() <= 1) return 0;
        Map<Integer, List<Rect>> parts = new HashMap<>();
        for (Rect r : piece) {
            int behind = 0;
            for (int line = 1; line < 400; line++) {
                final int at = line;
                boolean through = piece.stream().anyMatch(o -> up ? o.x() < at && at < o.x() + o.w() : o.y() < at && at < o.y() + o.t());
                boolean ahead = piece.stream().anyMatch(o -> (up ? o.x() + o.w() : o.y() + o.t()) <= at);
                if (!through && ahead && (up ? r.x() : r.y()) >= at) behind++;
            }
            parts.computeIfAbsent(behind, b -> new ArrayList<>()).add(r);
        }
        if (parts.size() == 1) return 10000;
        int most = 0;
        for (List<Rect> p : parts.values()) most = Math.max(most, stages(p, !up));
        return 1 + most;
    }

    int stages() {
        int least = Math.min(stages(world.rects(), true), stages(world.rects(), false));
        return least >= 10000 ? NONE : least;
    }

    int centre(int what) {
        if (what < 0 || what > 2) return BAD;
        if (world.lies.isEmpty()) return STATE;
        float m = 0;
        float x = 0;
        float y = 0;
        int area = 0;
        for (Rect r : world.rects()) {
            m = m + (float) (r.w() * r.t());
            x = x + r.w() * r.t() * (r.x() + r.w() / 2f);
            y = y + r.w() * r.t() * (r.y() + r.t() / 2f);
            area += r.w() * r.t();
        }
        return Float.floatToIntBits(new float[] {x / m, y / m, (float) area / (float) (world.wide * world.top())}[what]);
    }

    int drawn(int seed, int n) {
        if (n < 0 || n > 20) return BAD;
        World w = world.copy();
        long z = seed;
        for (int k = 0; k < n && !w.order.isEmpty(); k++) {
            int[] at = new int[2];
            for (int p = 0; p < 2; p++) {
                z = (z * 1103515245L + 12345L) & 0xFFFFFFFFL;
                at[p] = (int) ((z >> 9) % w.order.size());
            }
            Collections.swap(w.order, at[0], at[1]);
        }
        w.run();
        return w.top();
    }

    int chance(int seed, int m, int top, int part) {
        if (m < 1 || m > 8 || top < 0 || part < 0 || part > 1) return BAD;
        int low = 0;
        for (int k = 0; k < m; k++) if (drawn(seed + k, 6) <= top) low++;
        int by = 1;
        for (int d = 2; d <= m; d++) if (low % d == 0 && m % d == 0) by = d;
        return (part == 0 ? low : m) / by;
    }

    private static int unlike(int[] told, int[] sky) {
        int at = Arrays.mismatch(told, sky);
        return at < 0 ? NONE : at;
    }

    int tells(int sheet, int what) {
        if (!holds(sheet) || what < 0 || what > 2) return BAD;
        if (sheetSort[sheet] == NONE) return -11;
        int[] told = sheets[sheet];
        if (told.length > 20) return BAD;
        if (what == 0) return unlike(told, world.sky);
        int answer = 0;
        for (int rule = 0; what == 1 && rule < 4; rule++) {
            World w = world.copy();
            w.rule = rule;
            w.run();
            if (unlike(told, w.sky) == NONE) answer += (int) Math.pow(2, rule);
        }
        for (int j = 0; what == 2 && j < world.order.size(); j++) {
            for (int i = 0; i < j; i++) {
                World w = world.copy();
                Collections.swap(w.order, i, j);
                w.run();
                if (unlike(told, w.sky) == NONE) answer++;
            }
        }
        return answer;
    }

    int rack(int rack, int kind, int n) {
        if (!holds(rack) || kind < 0 || kind > 5 || n > 10) return BAD;
        if (n < 0) return -14;
        rackKind[rack] = kind;
        racks.set(rack, new ArrayList<>(Collections.nCopies(n, NONE)));
        return 1;
    }

    int puts(int rack, int i, int part) {
        if (!holds(rack) || (part != NONE && none(part))) return BAD;
        if (rackKind[rack] == NONE) return -11;
        if (i < 0 || i >= racks.get(rack).size()) return -12;
        if (part != NONE && !world.parts.get(part).isUnder(rackKind[rack])) return -16;
        racks.get(rack).set(i, part);
        return 1;
    }

    int moved(int rack, int i, int other, int j, int n) {
        if (!holds(rack) || !holds(other)) return BAD;
        if (rackKind[rack] == NONE || rackKind[other] == NONE) return -11;
        long size = racks.get(rack).size();
        long room = racks.get(other).size();
        if (i < 0 || j < 0 || n < 0 || (long) i + n > size || (long) j + n > room) return -12;
        List<Integer> come = new ArrayList<>(racks.get(rack).subList(i, i + n));
        for (int k = 0; k < n; k++) if (puts(other, j + k, come.get(k)) != 1) return k;
        return n;
    }

    int laid(int rack, int i) {
        if (!holds(rack)) return BAD;
        if (rackKind[rack] == NONE) return -11;
        return i < 0 || i >= racks.get(rack).size() ? -12 : racks.get(rack).get(i);
    }

    int image() {
        image = world.copy();
        return world.parts.size();
    }

    int back() {
        if (image == null) return STATE;
        world = image.copy();
        for (List<Integer> r : racks) Collections.fill(r, NONE);
        return world.parts.size();
    }

    int count(int what) {
        switch (what) {
            case 0: return world.parts.size();
            case 1: return world.order.size();
            case 2: return world.lies.size();
            case 3: return world.top();
            case 4: return tape.length();
            case 5: return world.wide;
            case 6: return new HashSet<>(world.parts).size();
            case 7:
                long orders = 1;
                for (int k = 2; k <= world.order.size(); k++) orders *= k;
                Map<Kind, Integer> seen = new HashMap<>();
                for (int p : world.order) orders /= seen.merge(world.parts.get(p), 1, Integer::sum);
                return (int) orders;
            default: return BAD;
        }
    }

    int sheet(int sheet, int sort, int n) {
        if (!holds(sheet) || sort < -1 || sort > 1) return BAD;
        if (sort != NONE && n > 40) return BAD;
        if (sort != NONE && n < 0) return -14;
        sheetSort[sheet] = sort;
        if (sort != NONE) sheets[sheet] = new int[n];
        return 1;
    }

    int put(int sheet, int i, int v) {
        if (!holds(sheet)) return BAD;
        if (sheetSort[sheet] == NONE) return -11;
        if (i < 0 || i >= sheets[sheet].length) return -12;
        sheets[sheet][i] = sheetSort[sheet] == 0 ? (v << 16) >> 16 : v;
        return 1;
    }

    int copy(int sheet, int i, int other, int j, int n) {
        if (!holds(sheet) || !holds(other)) return BAD;
        if (sheetSort[sheet] == NONE || sheetSort[other] == NONE) return -11;
        if (sheetSort[sheet] != sheetSort[other]) return -13;
        long size = sheets[sheet].length;
        long room = sheets[other].length;
        if (i < 0 || j < 0 || n < 0 || (long) i + n > size || (long) j + n > room) return -12;
        int[] come = Arrays.copyOfRange(sheets[sheet], i, i + n);
        for (int k = 0; k < n; k++) sheets[other][j + k] = come[k];
        return n;
    }
}
