/** What the tests lean on: answers are compared with those that are due. */
final class Due {
    static final int NONE = -1, BAD = -2, STATE = -3, FULL = -4;

    private final String name;
    private int wrong = 0;
    private int asked = 0;

    Due(String name) {
        this.name = name;
    }

    void due(String call, int got, int want) {
        asked++;
        if (got == want) return;
        wrong++;
        System.out.println(name + ": " + call + " answered " + got + ", due is " + want);
    }

    /** Compares a row of answers, told from the first on. */
    void dueRow(String call, int[] got, int... want) {
        due(call + " (how many)", got.length, want.length);
        for (int k = 0; k < got.length && k < want.length; k++) due(call + " [" + k + "]", got[k], want[k]);
    }

    /** To be called last. */
    void end() {
        System.out.println(name + ": " + asked + " answers, " + wrong + " wrong");
        if (wrong != 0) System.exit(1);
    }

    /** Feeds a text, five bytes a call; what the last call answered. */
    static int feed(SkylineNester x, String text) {
        int answer = 0;
        for (int from = 0; from < text.length(); from += 5) {
            int n = Math.min(5, text.length() - from);
            int[] bytes = new int[5];
            for (int k = 0; k < n; k++) bytes[k] = text.charAt(from + k);
            answer = x.feed(n, bytes[0], bytes[1], bytes[2], bytes[3], bytes[4]);
        }
        return answer;
    }

    /** Feeds a text and makes parts of it. */
    static int parts(SkylineNester x, String text) {
        feed(x, text);
        return x.parts();
    }

    static SkylineNester nester(int wide, String items) {
        SkylineNester x = new SkylineNester();
        x.strip(wide);
        if (!items.isEmpty()) parts(x, items);
        return x;
    }

    /** The skyline, column by column. */
    static int[] heights(SkylineNester x) {
        int[] row = new int[x.count(5)];
        int many = x.sky(-1, 0);
        for (int k = 0; k < many; k++) {
            int from = x.sky(k, 0);
            for (int c = 0; c < x.sky(k, 1); c++) row[from + c] = x.sky(k, 2);
        }
        return row;
    }

    /** The waste: x, y, wide, high of each rectangle, one behind the other. */
    static int[] waste(SkylineNester x) {
        int[] row = new int[4 * x.waste(-1, 0)];
        for (int k = 0; k < row.length; k++) row[k] = x.waste(k / 4, k % 4);
        return row;
    }

    /** Where a part lies: x, y, whether turned over, how. */
    static int[] lies(SkylineNester x, int part) {
        return new int[] {x.told(part, 4), x.told(part, 5), x.told(part, 6), x.told(part, 7)};
    }

    /** Puts numbers into a sheet of a sort. */
    static void tell(SkylineNester x, int sheet, int sort, int... numbers) {
        x.sheet(sheet, sort, numbers.length);
        for (int k = 0; k < numbers.length; k++) x.put(sheet, k, numbers[k]);
    }

    /** Makes an order of the parts told, through a rack. */
    static int order(SkylineNester x, int rack, int... parts) {
        x.rack(rack, 0, parts.length);
        for (int k = 0; k < parts.length; k++) x.puts(rack, k, parts[k]);
        return x.order(rack);
    }
}
