import java.io.IOException;
import java.nio.file.Files;
import java.nio.file.Path;
import java.util.Arrays;
import java.util.List;
import java.util.Set;
import java.util.TreeSet;
import java.util.function.Supplier;
import java.util.function.ToIntFunction;
import java.util.regex.Matcher;
import java.util.regex.Pattern;

/** What the tests of edges lean on: each check tells its promise and the sentence whose edge it stands at. */
final class Edge {
    private static final Path DOCUMENT = Path.of("../shared/DOC.md");
    /** Promises that name NONE only as what a call is given. */
    private static final Set<Integer> NONE_IS_GIVEN = Set.of(7, 8, 25);

    private final Due due;
    private final Set<String> met = new TreeSet<>();

    Edge(String name) {
        due = new Due(name);
    }

    void is(int promise, String sentence, int got, int want) {
        met.add(promise + ":" + (want <= -100 ? -100 : want));
        due.due("promise " + promise + ", " + sentence, got, want);
    }

    void row(int promise, String sentence, int[] got, int... want) {
        due.dueRow("promise " + promise + ", " + sentence, got, want);
    }

    /** The call answers so, and the object is as it was ahead of it. */
    void still(int promise, String sentence, Supplier<SkylineNester> making, ToIntFunction<SkylineNester> call, int want) {
        is(promise, sentence, call.applyAsInt(making.get()), want);
        same(promise, sentence + " (and nothing changes)", () -> {
            SkylineNester x = making.get();
            call.applyAsInt(x);
            return x;
        }, making);
    }

    /** Objects made in these two ways are the same in all that can be seen of them. */
    void same(int promise, String sentence, Supplier<SkylineNester> making, Supplier<SkylineNester> other) {
        List<Integer> got = Whole.of(making);
        List<Integer> want = Whole.of(other);
        int unlike = 0;
        while (unlike < Math.min(got.size(), want.size()) && got.get(unlike).equals(want.get(unlike))) unlike++;
        boolean alike = got.equals(want);
        due.due("promise " + promise + ", " + sentence + ", number " + unlike + " of what is seen", alike ? 1 : 0, 1);
    }

    /** To be called last: looks whether each refusal that the document names in these promises has been met. */
    void end(int first, int last) throws IOException {
        String document = Files.readString(DOCUMENT);
        for (int promise = first; promise <= last; promise++) {
            Matcher m = Pattern.compile("## Promise " + promise + ":[^\n]*\n\n`[^`]*`:([^\n]*)").matcher(document);
            boolean told = m.find();
            due.due("promise " + promise + " stands in the document", told ? 1 : 0, 1);
            if (told) need(promise, m.group(1));
        }
        due.end();
    }

    private void need(int promise, String words) {
        String[] names = {"NONE", "BAD", "STATE", "FULL"};
        Matcher m = Pattern.compile("NONE|BAD|STATE|FULL|-1[1-6]|-100").matcher(words);
        while (m.find()) {
            int at = Arrays.asList(names).indexOf(m.group());
            if (at == 0 && NONE_IS_GIVEN.contains(promise)) continue;
            int refusal = at < 0 ? Integer.parseInt(m.group()) : -1 - at;
            due.due("promise " + promise + ", " + m.group() + " is met", met.contains(promise + ":" + refusal) ? 1 : 0, 1);
        }
    }

    /**
     * Something of everything. The strip is 6 WIDE; parts 0, 1, 3, 5 lie on the skyline by THE ORDER, 2 does so turned
     * over, 6 is FIXED, 7 lies in WASTE, of which some is left, 4 doesn't lie. Racks: 0 for all (0, nothing, 3, 6), 1
     * for TURNING (2, nothing, nothing), 2 is missing, 3 has no places. Sheets: 0 tells the skyline by ints, 1 has
     * three shorts, 2 is missing, 3 tells nothing. THE IMAGE is of 3 other parts.
     */
    static SkylineNester rich(String tape) {
        SkylineNester x = Due.nester(3, "p2x1 t1x3 c1x1:2");
        x.fix(2, 2, 4);
        x.order(Due.NONE);
        x.rule(3, 1);
        x.run();
        x.image();
        x.strip(6);
        Due.parts(x, "p2x3 p3x2 t1x2:2 g2x1:2 s1x1:2 h2x1:3 p1x1*2");
        x.fix(6, 5, 9);
        x.rule(0, 1);
        Due.order(x, 0, 0, 1, 3, 5);
        x.run();
        x.lay(7);
        x.rule(2, 0);
        x.lay(2);
        x.rack(0, 0, 4);
        x.puts(0, 0, 0);
        x.puts(0, 2, 3);
        x.puts(0, 3, 6);
        x.rack(1, 1, 3);
        x.puts(1, 0, 2);
        x.rack(3, 4, 0);
        Due.tell(x, 0, 1, 4, 4, 3, 3, 3, 3);
        Due.tell(x, 1, 0, 1, 65538, 3);
        x.sheet(3, 1, 0);
        Due.feed(x, tape);
        return x;
    }

    static SkylineNester rich() {
        return rich("p1x1 t2");
    }

    /** The same, but nothing lies that isn't FIXED. */
    static SkylineNester cleared() {
        SkylineNester x = rich();
        x.lay(Due.NONE);
        return x;
    }

    /** The same with so many bytes on the tape. */
    static SkylineNester richTape(int bytes) {
        SkylineNester x = rich("");
        for (int k = 0; k < bytes; k++) x.feed(1, 32, 0, 0, 0, 0);
        return x;
    }
}
