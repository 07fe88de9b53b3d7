import java.util.ArrayList;
import java.util.List;

/**
 * A strip with some PARTS FIXED; the others but the last are LAID by number, then the last is looked at. That is done
 * by place (promise 11), by lay (12), and by a RUN of all of them (13); what is RUN in thought (17, 18, 21 to 23) is
 * compared with RUNS that are really made.
 */
final class Scene {
    private final Edge edge;
    private final int wide;
    private final String items;
    private int rule = 0;
    private int usesWaste = 1;
    private final List<int[]> fixed = new ArrayList<>();

    Scene(Edge edge, int wide, String items) {
        this.edge = edge;
        this.wide = wide;
        this.items = items;
    }

    Scene rule(int itsRule) {
        rule = itsRule;
        return this;
    }

    Scene withoutWaste() {
        usesWaste = 0;
        return this;
    }

    Scene fix(int part, int x, int y) {
        fixed.add(new int[] {part, x, y});
        return this;
    }

    private SkylineNester begin() {
        SkylineNester n = Due.nester(wide, items);
        n.rule(rule, usesWaste);
        for (int[] f : fixed) edge.is(7, "a scene's FIXED one: " + items, n.fix(f[0], f[1], f[2]), 1);
        return n;
    }

    /** None is laid, all that aren't FIXED are in THE ORDER. */
    private SkylineNester ordered() {
        SkylineNester n = begin();
        n.order(Due.NONE);
        return n;
    }

    /** All but the last are laid. */
    SkylineNester made() {
        SkylineNester n = begin();
        for (int part = 0; part < n.count(0) - 1; part++) {
            if (n.told(part, 7) == 0) n.lay(part);
        }
        return n;
    }

    /** The last is laid, too. */
    SkylineNester all() {
        SkylineNester n = made();
        n.lay(n.count(0) - 1);
        return n;
    }

    /** On the skyline as it is. */
    void at(String sentence, int x, int y) {
        at(sentence, x, y, 0, 0);
    }

    void at(String sentence, int x, int y, int turned, int inWaste) {
        String told = sentence + ": \"" + items + "\"";
        int last = begin().count(0) - 1;
        int[] want = {x, y, turned, inWaste};
        for (int what = 0; what < 4; what++) {
            int asked = what;
            edge.is(11, told + ", what " + what, made().place(last, asked), want[what]);
        }
        SkylineNester n = made();
        int many = n.count(2);
        edge.is(12, told, n.lay(last), y);
        edge.row(12, told, Due.lies(n, last), x, y, turned, 2 + inWaste);
        edge.is(12, told + ", how many lie", n.count(2), many + 1);
        int top = n.count(3);
        SkylineNester r = ordered();
        edge.is(21, told + ", in thought", r.drawn(1, 0), top);
        edge.is(13, told, r.run(), many + 1 - fixed.size());
        edge.row(13, told, Due.lies(r, last), x, y, turned, 2 + inWaste);
        edge.row(13, told, Due.heights(r), Due.heights(n));
        edge.row(13, told, Due.waste(r), Due.waste(n));
        Thought.check(edge, told, this::ordered);
    }

    void nowhere(String sentence) {
        String told = sentence + ": \"" + items + "\"";
        int last = begin().count(0) - 1;
        for (int what = 0; what < 4; what++) {
            int asked = what;
            edge.still(11, told + ", what " + what, this::made, n -> n.place(last, asked), Due.NONE);
        }
        edge.still(12, told, this::made, n -> n.lay(last), Due.NONE);
        SkylineNester n = made();
        SkylineNester r = ordered();
        edge.is(13, told, r.run(), n.count(2) - fixed.size());
        edge.row(13, told, Due.lies(r, last), Due.NONE, Due.NONE, Due.NONE, 0);
        edge.row(13, told, Due.heights(r), Due.heights(n));
        Thought.check(edge, told, this::ordered);
    }
}
