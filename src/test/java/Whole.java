import java.util.ArrayList;
import java.util.List;
import java.util.function.Supplier;

/**
 * All that can be seen of an object, as a row of numbers. What can't be seen without a change (the tape's bytes, what
 * a sheet tells, the kind that a rack is made for, the image) is read off objects of its own, made in the same way.
 */
final class Whole {
    private static final int NONE = Due.NONE;

    private Whole() { }

    static List<Integer> of(Supplier<SkylineNester> making) {
        List<Integer> all = new ArrayList<>();
        plan(making.get(), all);
        racks(making.get(), all);
        for (int rack = 0; rack < 4; rack++) rackKind(making.get(), rack, all);
        for (int sheet = 0; sheet < 4; sheet++) sheet(making, sheet, all);
        tape(making.get(), all);
        image(making.get(), all);
        return all;
    }

    /** What an image keeps, and how many bytes the tape has. */
    private static void plan(SkylineNester x, List<Integer> all) {
        for (int what = 0; what < 8; what++) all.add(x.count(what));
        for (int part = 0; part < x.count(0); part++) {
            for (int what = 0; what < 8; what++) all.add(x.told(part, what));
        }
        for (int i = 0; i < x.count(1); i++) all.add(x.swap(i, i));
        int rule = x.rule(0, 1);
        x.rule(rule / 2, rule % 2);
        all.add(rule);
        for (int height : Due.heights(x)) all.add(height);
        for (int number : Due.waste(x)) all.add(number);
    }

    private static void racks(SkylineNester x, List<Integer> all) {
        for (int rack = 0; rack < 4; rack++) {
            for (int i = 0; i <= 10; i++) {
                all.add(x.laid(rack, i));
                if (x.laid(rack, i) < NONE) break;
            }
        }
    }

    /** What a rack answers to a part of each kind. */
    private static void rackKind(SkylineNester x, int rack, List<Integer> all) {
        x.strip(1);
        x.parts();
        Due.parts(x, "p1x1 t1x1 g1x1 c1x1 s1x1 h1x1");
        for (int part = 0; part < 6; part++) all.add(x.puts(rack, 0, part));
    }

    private static void sheet(Supplier<SkylineNester> making, int sheet, List<Integer> all) {
        SkylineNester x = making.get();
        int size = NONE;
        for (int n = 0; n <= 40; n++) {
            if (x.copy(sheet, 0, sheet, 0, n) == n) size = n;
        }
        all.add(size);
        if (size == NONE) return;
        int scratch = (sheet + 1) % 4;
        x.sheet(scratch, 1, 1);
        int sort = x.copy(sheet, 0, scratch, 0, 0) == 0 ? 1 : 0;
        all.add(sort);
        int[] told = new int[size];
        java.util.Arrays.fill(told, NONE);
        for (int height = 0; height < 10; height++) {
            SkylineNester y = making.get();
            raise(y, height);
            y.sheet(scratch, sort, 1);
            for (int i = 0; i < size; i++) {
                y.copy(sheet, i, scratch, 0, 1);
                if (y.tells(scratch, 0) == NONE) told[i] = height;
            }
        }
        for (int number : told) all.add(number);
    }

    /** A strip of one column and one height, so that a sheet of one number can be compared with that. */
    private static void raise(SkylineNester x, int height) {
        x.strip(1);
        x.parts();
        if (height == 0) return;
        x.feed(4, 'p', '1', 'x', '0' + height, 0);
        x.parts();
        x.lay(0);
    }

    /** What becomes of the tape's bytes on a strip that is wide enough for all. */
    private static void tape(SkylineNester x, List<Integer> all) {
        x.strip(20);
        all.add(x.parts());
        for (int part = 0; part < x.count(0); part++) {
            for (int what = 0; what < 4; what++) all.add(x.told(part, what));
        }
    }

    private static void image(SkylineNester x, List<Integer> all) {
        all.add(x.back());
        plan(x, all);
    }
}
