import java.util.Map;
import java.util.Random;
import java.util.TreeMap;

/** Many runs of calls, drawn by set seeds, on the class and on the model; every answer is compared. */
public final class ModelTest {
    private static final String LETTERS = "ptgcsh";
    private static final int CALLS = 512;

    private static int wrong = 0;
    /** How often each call came to which sort of answer, so that a call that is never taken is seen. */
    private static final Map<String, Integer> seen = new TreeMap<>();

    private final Random random;
    private final SkylineNester x = new SkylineNester();
    private final Model m = new Model();
    private final StringBuilder log = new StringBuilder();
    /** How wide the strip may be in this run, and how wild the arguments are. */
    private final int widest;
    private final double wild;
    private boolean failed = false;

    private ModelTest(int seed) {
        random = new Random(seed);
        widest = 1 + random.nextInt(20);
        wild = random.nextInt(4) == 0 ? 0.2 : 0.03;
    }

    public static void main(String[] args) {
        int runs = args.length > 0 ? Integer.parseInt(args[0]) : 400;
        int first = args.length > 1 ? Integer.parseInt(args[1]) : 1;
        for (int seed = first; seed < first + runs && wrong < 5; seed++) new ModelTest(seed).go(seed);
        for (String need : NEEDED.split(" ")) {
            if (!seen.containsKey(need) && args.length == 0) {
                System.out.println("ModelTest: no run came to " + need);
                wrong++;
            }
        }
        if (args.length > 0) System.out.println(seen);
        System.out.println("ModelTest: " + runs + " runs, " + wrong + " wrong");
        if (wrong != 0) System.exit(1);
    }

    private static final String NEEDED = "feed:ok feed:-2 feed:-4 strip:-2 parts:ok parts:-4 parts:fault told:ok told:-1 "
            + "told:-2 taken:ok taken:-2 taken:-13 fix:ok fix:-2 fix:-3 fix:-12 fix:-15 order:ok order:-2 order:-3 order:-11 "
            + "swap:ok swap:-12 rule:ok rule:-2 place:ok place:-1 place:-2 place:-3 lay:ok lay:-1 lay:-2 lay:-3 run:ok "
            + "sky:ok sky:-2 sky:-12 waste:ok waste:-2 waste:-12 bound:ok bound:-2 best:ok best:-1 best:-3 best:-12 "
            + "layouts:ok layouts:-2 layouts:-3 stages:ok stages:-1 centre:ok centre:-2 centre:-3 drawn:ok drawn:-2 "
            + "chance:ok chance:-2 tells:ok tells:-1 tells:-2 tells:-11 rack:ok rack:-2 rack:-14 puts:ok puts:-2 puts:-11 "
            + "puts:-12 puts:-16 moved:ok moved:-2 moved:-11 moved:-12 laid:ok laid:-1 laid:-2 laid:-11 laid:-12 image:ok "
            + "back:ok back:-3 count:ok count:-2 sheet:ok sheet:-2 sheet:-14 put:ok put:-2 put:-11 put:-12 copy:ok copy:-2 "
            + "copy:-11 copy:-12 copy:-13";

    private void go(int seed) {
        int calls = seed % 2 == 0 ? begin() : 0;
        while (calls < CALLS && !failed) calls += step();
        if (failed) {
            wrong++;
            System.out.println("ModelTest: seed " + seed + "\n" + log);
        }
    }

    /** Parts, fixed ones, racks, sheets and an order ahead of all else, so that the run is a full one. */
    private int begin() {
        int calls = strip();
        for (int k = random.nextInt(8) + 2; k > 0; k--) calls += feedItem();
        calls += check("parts()", x.parts(), m.parts());
        for (int k = random.nextInt(5); k > 0; k--) calls += fix();
        for (int k = 0; k < 4; k++) calls += rack() + puts() + sheet();
        int rule = random.nextInt(4);
        calls += check("rule(" + rule + ", 1)", x.rule(rule, 1), m.rule(rule, 1));
        calls += check("order(-1)", x.order(-1), m.order(-1)) + runAndSee();
        return random.nextInt(2) == 0 ? calls : calls + check("image()", x.image(), m.image());
    }

    /** A number from low to high, now and then one beyond. */
    private int some(int low, int high) {
        if (random.nextDouble() < wild) {
            int[] odd = {low - 1, high + 1, low - 2, high + 2, Integer.MIN_VALUE, Integer.MAX_VALUE, 0, -1, 1 << 16};
            return odd[random.nextInt(odd.length)];
        }
        return high < low ? low : low + random.nextInt(high - low + 1);
    }

    private int check(String call, int got, int want) {
        String sort = want >= 0 ? "ok" : want <= -100 && call.startsWith("parts") ? "fault" : "" + want;
        seen.merge(call.substring(0, call.indexOf('(')) + ":" + sort, 1, Integer::sum);
        log.append(call).append(" -> ").append(got);
        if (got != want) {
            log.append(", due is ").append(want);
            failed = true;
        }
        log.append('\n');
        return 1;
    }

    private int part() {
        return some(0, x.count(0) - 1);
    }

    private int step() {
        switch (random.nextInt(34)) {
            case 0: return feedSome();
            case 1: case 2: return feedItem();
            case 3: return random.nextInt(6) == 0 ? strip() : feedItem();
            case 4: return check("parts()", x.parts(), m.parts());
            case 5: return told();
            case 6: case 7: return fix();
            case 8: case 9: return order();
            case 10: return swapOrRule();
            case 11: case 12: return placeOrLay();
            case 13: case 14: return placeOrLay();
            case 15: case 16: return runAndSee();
            case 17: return bounds();
            case 18: return bestOrLayouts();
            case 19: return check("stages()", x.stages(), m.stages());
            case 20: return centre();
            case 21: return drawn();
            case 22: case 23: return tells();
            case 24: return rack();
            case 25: case 26: return puts();
            case 27: return moved();
            case 28: return laid();
            case 29: return imageOrBack();
            case 30: return count();
            case 31: return sheet();
            case 32: return put();
            default: return copy();
        }
    }

    private int feed(String s) {
        int calls = 0;
        for (int from = 0; from < s.length(); from += 5) {
            int n = Math.min(5, s.length() - from);
            int[] b = new int[5];
            for (int k = 0; k < n; k++) b[k] = s.charAt(from + k);
            String call = "feed(" + n + ", " + b[0] + ", " + b[1] + ", " + b[2] + ", " + b[3] + ", " + b[4] + ")";
            calls += check(call, x.feed(n, b[0], b[1], b[2], b[3], b[4]), m.feed(n, b));
        }
        return calls;
    }

    private int feedSome() {
        if (random.nextInt(3) > 0) return feedItem();
        if (random.nextInt(8) == 0) return feed("p1x1 t2x2 c1x3 g2x1:2 s1x1:3 h2x2:9 p3x1*2 p1x2 t3x1:5   p1x1 p2x2 p1x1");
        int n = some(1, 5);
        int[] b = new int[5];
        for (int k = 0; k < 5; k++) b[k] = some(0, 255);
        String call = "feed(" + n + ", " + b[0] + ", " + b[1] + ", " + b[2] + ", " + b[3] + ", " + b[4] + ")";
        return check(call, x.feed(n, b[0], b[1], b[2], b[3], b[4]), m.feed(n, b));
    }

    private int feedItem() {
        StringBuilder s = new StringBuilder();
        int wide = x.count(5);
        int kind = random.nextInt(2) == 0 ? random.nextInt(6) : random.nextInt(4);
        s.append(LETTERS.charAt(kind));
        int w = 1 + random.nextInt(Math.max(1, Math.min(wide, random.nextInt(3) == 0 ? 20 : 5)));
        if (random.nextInt(25) == 0) w = random.nextInt(130);
        if (w < 10 && random.nextInt(8) == 0) s.append('0');
        s.append(w).append('x').append(1 + random.nextInt(random.nextInt(3) == 0 ? 9 : 4));
        if (random.nextInt(2) == 0) s.append(':').append(1 + random.nextInt(random.nextInt(2) == 0 ? 3 : 9));
        if (random.nextInt(5) == 0) s.append('*').append(1 + random.nextInt(random.nextInt(9) == 0 ? 9 : 2));
        if (random.nextInt(3) > 0) s.append(random.nextInt(5) > 0 ? ' ' : '\n');
        if (random.nextInt(12) == 0) s.setCharAt(random.nextInt(s.length()), "0123x:*ptg\n q".charAt(random.nextInt(13)));
        if (random.nextInt(20) == 0) s.deleteCharAt(random.nextInt(s.length()));
        return feed(s.toString()) + (random.nextInt(4) > 0 ? check("parts()", x.parts(), m.parts()) : 0);
    }

    private int strip() {
        int wide = some(1, widest);
        return check("strip(" + wide + ")", x.strip(wide), m.strip(wide));
    }

    private int told() {
        int part = part();
        int what = some(0, 7);
        int k = some(0, 5);
        check("told(" + part + ", " + what + ")", x.told(part, what), m.told(part, what));
        return 1 + check("taken(" + part + ", " + k + ")", x.taken(part, k), m.taken(part, k));
    }

    private int fix() {
        int calls = 0;
        if (random.nextInt(3) == 0) {
            calls += check("lay(-1)", x.lay(-1), m.lay(-1));
            int rack = random.nextInt(4);
            if (random.nextInt(2) == 0) calls += check("order(" + rack + ")", x.order(rack), m.order(rack));
        }
        int part = part();
        int at = random.nextInt(6) == 0 ? -1 : some(0, x.count(5) - 1);
        int y = some(0, random.nextInt(5) == 0 ? 60 : 6);
        return calls + check("fix(" + part + ", " + at + ", " + y + ")", x.fix(part, at, y), m.fix(part, at, y));
    }

    private int order() {
        int rack = random.nextInt(2) == 0 ? -1 : some(-1, 3);
        return check("order(" + rack + ")", x.order(rack), m.order(rack));
    }

    private int swapOrRule() {
        if (random.nextInt(2) == 0) {
            int rule = some(0, 3);
            int waste = random.nextInt(4) == 0 ? some(0, 1) : 1;
            return check("rule(" + rule + ", " + waste + ")", x.rule(rule, waste), m.rule(rule, waste));
        }
        int i = some(0, x.count(1) - 1);
        int j = some(0, x.count(1) - 1);
        return check("swap(" + i + ", " + j + ")", x.swap(i, j), m.swap(i, j));
    }

    private int placeOrLay() {
        int part = part();
        int what = some(0, 3);
        check("place(" + part + ", " + what + ")", x.place(part, what), m.place(part, what));
        return 1 + check("lay(" + part + ")", x.lay(part), m.lay(part)) + see();
    }

    private int runAndSee() {
        return check("run()", x.run(), m.run()) + see();
    }

    /** All that lies, and the skyline and the waste. */
    private int see() {
        if (random.nextInt(3) == 0) return 0;
        int calls = 0;
        int segments = x.sky(-1, 0);
        for (int k = -1; k <= segments; k++) {
            int what = some(0, 2);
            calls += check("sky(" + k + ", " + what + ")", x.sky(k, what), m.sky(k, what));
        }
        int rects = x.waste(-1, 0);
        for (int k = -1; k <= rects; k++) {
            for (int what = 0; what < 4; what++) {
                if (k < 0 && what > 0) continue;
                calls += check("waste(" + k + ", " + what + ")", x.waste(k, what), m.waste(k, what));
            }
        }
        for (int part = 0; part < x.count(0); part++) {
            int what = random.nextInt(4) + 4;
            calls += check("told(" + part + ", " + what + ")", x.told(part, what), m.told(part, what));
        }
        int k = some(-1, segments);
        int what = some(0, 4);
        check("waste(" + k + ", " + what + ")", x.waste(k, what), m.waste(k, what));
        return calls + 1 + check("sky(" + k + ", " + what + ")", x.sky(k, what), m.sky(k, what));
    }

    private int bounds() {
        int calls = 0;
        for (int which = 0; which < 9; which++) {
            int b = some(which, which);
            calls += check("bound(" + b + ")", x.bound(b), m.bound(b));
        }
        return calls;
    }

    private int bestOrLayouts() {
        int k = some(-1, x.count(1) - 1);
        int what = some(0, 1);
        check("best(" + k + ")", x.best(k), m.best(k));
        return 1 + check("layouts(" + what + ")", x.layouts(what), m.layouts(what));
    }

    private int centre() {
        int what = some(0, 2);
        return check("centre(" + what + ")", x.centre(what), m.centre(what));
    }

    private int drawn() {
        int seed = random.nextInt();
        int n = some(0, 20);
        check("drawn(" + seed + ", " + n + ")", x.drawn(seed, n), m.drawn(seed, n));
        if (random.nextInt(8) == 0) seed = Integer.MAX_VALUE - random.nextInt(4);
        int many = some(1, 8);
        int top = some(0, 25);
        int part = some(0, 1);
        String call = "chance(" + seed + ", " + many + ", " + top + ", " + part + ")";
        return 1 + check(call, x.chance(seed, many, top, part), m.chance(seed, many, top, part));
    }

    private int tells() {
        int calls = 0;
        int sheet = some(0, 3);
        if (random.nextInt(2) == 0) {
            int wide = x.count(5) + (random.nextInt(8) == 0 ? random.nextInt(3) - 1 : 0);
            int sort = random.nextInt(2);
            calls += check("sheet(" + sheet + ")", x.sheet(sheet, sort, wide), m.sheet(sheet, sort, wide));
            int from = 0;
            for (int k = 0; k < x.sky(-1, 0); k++) {
                for (int c = 0; c < x.sky(k, 1); c++) {
                    int v = some(x.sky(k, 2), x.sky(k, 2));
                    calls += check("put(" + sheet + ", " + from + ", " + v + ")", x.put(sheet, from, v), m.put(sheet, from, v));
                    from++;
                }
            }
        }
        for (int what = 0; what < 3; what++) {
            int w = some(what, what);
            calls += check("tells(" + sheet + ", " + w + ")", x.tells(sheet, w), m.tells(sheet, w));
        }
        return calls;
    }

    private int rack() {
        int rack = some(0, 3);
        int kind = random.nextInt(3) > 0 ? 0 : some(0, 5);
        int n = some(0, 10);
        return check("rack(" + rack + ", " + kind + ", " + n + ")", x.rack(rack, kind, n), m.rack(rack, kind, n));
    }

    private int puts() {
        int calls = 0;
        int rack = some(0, 3);
        for (int many = random.nextInt(4); many >= 0; many--) {
            int i = some(0, 5);
            int part = random.nextInt(7) == 0 ? -1 : part();
            calls += check("puts(" + rack + ", " + i + ", " + part + ")", x.puts(rack, i, part), m.puts(rack, i, part));
        }
        return calls;
    }

    private int moved() {
        int rack = some(0, 3);
        int other = some(0, 3);
        int i = some(0, 4);
        int j = some(0, 4);
        int n = some(0, 4);
        String call = "moved(" + rack + ", " + i + ", " + other + ", " + j + ", " + n + ")";
        return check(call, x.moved(rack, i, other, j, n), m.moved(rack, i, other, j, n));
    }

    private int laid() {
        int calls = 0;
        int rack = some(0, 3);
        for (int i = -1; i <= 10; i++) calls += check("laid(" + rack + ", " + i + ")", x.laid(rack, i), m.laid(rack, i));
        return calls;
    }

    private int imageOrBack() {
        if (random.nextInt(2) == 0) return check("image()", x.image(), m.image());
        return check("back()", x.back(), m.back()) + see();
    }

    private int count() {
        int calls = 0;
        for (int what = -1; what <= 8; what++) calls += check("count(" + what + ")", x.count(what), m.count(what));
        return calls;
    }

    private int sheet() {
        int sheet = some(0, 3);
        int sort = some(-1, 1);
        int n = some(0, random.nextInt(3) == 0 ? 40 : 12);
        return check("sheet(" + sheet + ", " + sort + ", " + n + ")", x.sheet(sheet, sort, n), m.sheet(sheet, sort, n));
    }

    private int put() {
        int sheet = some(0, 3);
        int i = some(0, 10);
        int v = random.nextInt(2) == 0 ? random.nextInt() : random.nextInt(8);
        return check("put(" + sheet + ", " + i + ", " + v + ")", x.put(sheet, i, v), m.put(sheet, i, v));
    }

    private int copy() {
        int sheet = some(0, 3);
        int other = some(0, 3);
        int i = some(0, 8);
        int j = some(0, 8);
        int n = some(0, 8);
        String call = "copy(" + sheet + ", " + i + ", " + other + ", " + j + ", " + n + ")";
        return check(call, x.copy(sheet, i, other, j, n), m.copy(sheet, i, other, j, n));
    }
}
