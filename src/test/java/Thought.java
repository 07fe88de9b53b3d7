import java.math.BigInteger;
import java.util.HashMap;
import java.util.HashSet;
import java.util.List;
import java.util.Map;
import java.util.Set;
import java.util.function.Supplier;

/** What calls come to in thought, by orders, exchanges and RUNS that are really made, on an object each. */
final class Thought {
    private static final int NONE = Due.NONE;

    private final Supplier<SkylineNester> making;
    private final int[] parts;
    /** TOP of BEST and its order: the first, by numbers, of those that lay all; NONE if none does. */
    int top = NONE;
    int[] first = {};
    /** How many orders lay all, to how many LAYOUTS, and how many to the one to which most do. */
    int all = 0;
    int unlike = 0;
    int most = 0;
    private final Map<Set<Set<List<Integer>>>, Integer> layouts = new HashMap<>();

    /** All orders of the parts of an object's ORDER, by numbers. */
    Thought(Supplier<SkylineNester> making) {
        this.making = making;
        SkylineNester x = making.get();
        parts = new int[x.count(1)];
        for (int i = 0; i < parts.length; i++) parts[i] = x.swap(i, i);
        java.util.Arrays.sort(parts);
        go(0, new int[parts.length], 0);
        unlike = layouts.size();
        for (int many : layouts.values()) most = Math.max(most, many);
    }

    private void go(int at, int[] taken, int used) {
        if (at == parts.length) {
            look(taken);
            return;
        }
        for (int i = 0; i < parts.length; i++) {
            if ((used >> i & 1) != 0) continue;
            taken[at] = parts[i];
            go(at + 1, taken, used | 1 << i);
        }
    }

    private void look(int[] taken) {
        SkylineNester x = making.get();
        Due.order(x, 2, taken);
        if (x.run() < taken.length) return;
        all++;
        layouts.merge(layout(x), 1, Integer::sum);
        if (top != NONE && x.count(3) >= top) return;
        top = x.count(3);
        first = taken.clone();
    }

    /** The rectangles of what lies, and those of the strip turned over. */
    private static Set<Set<List<Integer>>> layout(SkylineNester x) {
        Set<List<Integer>> as = new HashSet<>();
        Set<List<Integer>> over = new HashSet<>();
        for (int part = 0; part < x.count(0); part++) {
            if (x.told(part, 7) == 0) continue;
            boolean turned = x.told(part, 6) == 1;
            int w = x.told(part, turned ? 2 : 1);
            int t = x.told(part, turned ? 1 : 2) + (x.told(part, 0) == 3 ? 1 : 0);
            as.add(List.of(x.told(part, 4), x.told(part, 5), w, t));
            over.add(List.of(x.count(5) - x.told(part, 4) - w, x.told(part, 5), w, t));
        }
        Set<Set<List<Integer>>> both = new HashSet<>();
        both.add(as);
        both.add(over);
        return both;
    }

    /** The numbers of a SEED, by places that there are so many of. */
    static int[] numbers(int seed, int n, int many) {
        int[] row = new int[n];
        BigInteger z = BigInteger.valueOf(seed);
        BigInteger turns = BigInteger.ONE.shiftLeft(32);
        for (int k = 0; k < n; k++) {
            z = z.multiply(BigInteger.valueOf(1103515245)).add(BigInteger.valueOf(12345)).mod(turns);
            row[k] = z.shiftRight(9).mod(BigInteger.valueOf(many)).intValue();
        }
        return row;
    }

    /** TOP of what is DRAWN by a SEED and n exchanges. */
    static int topBySwaps(Supplier<SkylineNester> making, int seed, int n) {
        SkylineNester x = making.get();
        if (x.count(1) > 0) {
            int[] row = numbers(seed, 2 * n, x.count(1));
            for (int k = 0; k < n; k++) x.swap(row[2 * k], row[2 * k + 1]);
        }
        x.run();
        return x.count(3);
    }

    /** THE RULES by which a RUN comes to these heights, as bits; WASTE as it is. */
    static int rulesTo(Supplier<SkylineNester> making, int[] heights) {
        int bits = 0;
        for (int rule = 0; rule < 4; rule++) {
            SkylineNester x = making.get();
            x.rule(rule, x.rule(0, 0) % 2);
            x.run();
            if (java.util.Arrays.equals(Due.heights(x), heights)) bits |= 1 << rule;
        }
        return bits;
    }

    /** How many pairs of places of THE ORDER, exchanged, have a RUN that comes to these heights. */
    static int pairsTo(Supplier<SkylineNester> making, int[] heights) {
        int pairs = 0;
        int many = making.get().count(1);
        for (int i = 0; i < many; i++) {
            for (int j = i + 1; j < many; j++) {
                SkylineNester x = making.get();
                x.swap(i, j);
                x.run();
                if (java.util.Arrays.equals(Due.heights(x), heights)) pairs++;
            }
        }
        return pairs;
    }

    /** Looks whether an object's calls in thought come to the same. */
    static void check(Edge edge, String told, Supplier<SkylineNester> making) {
        SkylineNester x = making.get();
        int many = x.count(1);
        for (int seed : new int[] {3, Integer.MAX_VALUE}) {
            int top = topBySwaps(making, seed, 6);
            edge.is(21, told + ", DRAWN by " + seed, x.drawn(seed, 6), top);
            edge.is(22, told + ", not above TOP by " + seed, x.chance(seed, 1, top, 0), 1);
            if (top > 0) edge.is(22, told + ", above a TOP by " + seed, x.chance(seed, 1, top - 1, 0), 0);
        }
        SkylineNester r = making.get();
        r.run();
        int[] heights = Due.heights(r);
        Due.tell(x, 3, 1, heights);
        edge.is(23, told + ", RULES", x.tells(3, 1), rulesTo(making, heights));
        edge.is(23, told + ", pairs", x.tells(3, 2), pairsTo(making, heights));
        if (many > 5) return;
        Thought t = new Thought(making);
        edge.is(17, told + ", TOP of BEST", x.best(-1), t.top);
        for (int k = 0; k < many; k++) edge.is(17, told + ", BEST", x.best(k), t.top == NONE ? NONE : t.first[k]);
        edge.is(18, told + ", LAYOUTS", x.layouts(0), t.unlike);
        edge.is(18, told + ", LAYOUTS, to which most do", x.layouts(1), t.most);
        if (t.all > 0) edge.is(18, told + ", one LAYOUT at least", x.layouts(0) > 0 ? 1 : 0, 1);
    }
}
