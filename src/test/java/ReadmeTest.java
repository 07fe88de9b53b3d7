import java.io.File;
import java.net.URL;
import java.net.URLClassLoader;
import java.nio.file.Files;
import java.nio.file.Path;
import java.util.ArrayList;
import java.util.HashSet;
import java.util.List;
import java.util.Set;
import java.util.TreeMap;
import java.util.TreeSet;
import java.util.regex.Matcher;
import java.util.regex.Pattern;

/**
 * README.md: its examples are compiled and run, and each answer that they tell is compared; its tables are held
 * against the face and the promises of ../shared/DOC.md. To be run in the project's root.
 */
public final class ReadmeTest {
    private static final Path PAGE = Path.of("README.md");
    private static final Path DOCUMENT = Path.of("../shared/DOC.md");
    private static final String BEGIN = "SkylineNester x = new SkylineNester();";
    private static final Pattern TOLD = Pattern.compile("(.+\\));\\s*// (-?[\\d.]+)(?:: .*)?");
    /** Only what the helper feeds may stand without its answer. */
    private static final Pattern FED = Pattern.compile("feed\\(x, \".*\"\\);");
    private static final Pattern CALL = Pattern.compile("x\\.(\\w+)\\(");
    private static final Pattern REFUSAL = Pattern.compile("BAD|STATE|FULL|-1[1-6]");

    private static int wrong = 0;
    private static int asked = 0;

    private final StringBuilder code = new StringBuilder("public final class ReadmeExamples {\n");
    private final StringBuilder begin = new StringBuilder("  public static void go() {\n");
    private final Set<String> called = new TreeSet<>();
    private final Set<String> answers = new HashSet<>();
    private int blocks = 0;

    public static void main(String[] args) throws Exception {
        List<String> page = Files.readAllLines(PAGE);
        String document = Files.readString(DOCUMENT);
        ReadmeTest test = new ReadmeTest();
        test.readBlocks(page);
        test.runBlocks();
        test.needAllCalls(document);
        rows(page, document);
        refusals(page);
        System.out.println("ReadmeTest: " + asked + " answers, " + wrong + " wrong");
        if (wrong != 0) System.exit(1);
    }

    private static void need(boolean held, String what) {
        if (held) return;
        wrong++;
        System.out.println("ReadmeTest: " + what);
    }

    /** What the examples call for each answer that they tell. */
    public static void due(int line, String call, Object got, String want) {
        asked++;
        need(String.valueOf(got).equals(want), "line " + line + ": " + call + " answers " + got + ", the page tells " + want);
    }

    private void readBlocks(List<String> page) {
        for (int k = 0; k < page.size(); k++) {
            if (page.get(k).equals("```java")) k = readBlock(page, k + 1);
        }
        code.append(begin).append("  }\n}\n");
    }

    /** The line with which the block ends. */
    private int readBlock(List<String> page, int from) {
        int end = from;
        while (end < page.size() && !page.get(end).equals("```")) end++;
        need(end < page.size(), "the block from line " + from + " on has no end");
        boolean helper = page.get(from).startsWith("static ");
        if (!helper) beginExample(page.get(from), from + 1);
        for (int k = from; k < end; k++) {
            code.append(helper ? page.get(k) : statement(page.get(k).trim(), k + 1)).append('\n');
        }
        if (!helper) code.append("  }\n");
        return end;
    }

    private void beginExample(String line, int number) {
        need(line.equals(BEGIN), "line " + number + ": an example begins otherwise");
        code.append("  static void example").append(blocks).append("() {\n");
        begin.append("    example").append(blocks).append("();\n");
        blocks++;
    }

    private String statement(String line, int number) {
        if (line.equals(BEGIN) || FED.matcher(line).matches()) return line;
        Matcher m = TOLD.matcher(line);
        if (!m.matches()) {
            need(false, "line " + number + " tells no answer: " + line);
            return "";
        }
        Matcher call = CALL.matcher(m.group(1));
        while (call.find()) called.add(call.group(1));
        if (m.group(1).startsWith("feed(x, ")) called.add("feed");
        answers.add(m.group(2));
        String text = m.group(1).replace("\"", "\\\"");
        return "    ReadmeTest.due(" + number + ", \"" + text + "\", " + m.group(1) + ", \"" + m.group(2) + "\");";
    }

    private void runBlocks() throws Exception {
        Path dir = Files.createTempDirectory("readme");
        Path file = dir.resolve("ReadmeExamples.java");
        Files.writeString(file, code.toString());
        String path = System.getProperty("java.class.path");
        String[] javac = {"javac", "-cp", path, "-d", dir.toString(), file.toString()};
        int failed = new ProcessBuilder(javac).inheritIO().start().waitFor();
        need(failed == 0, "the examples can't be compiled");
        if (failed == 0) {
            try (URLClassLoader loader = new URLClassLoader(new URL[] {dir.toUri().toURL()})) {
                loader.loadClass("ReadmeExamples").getMethod("go").invoke(null);
            }
        }
        for (File each : dir.toFile().listFiles()) Files.delete(each.toPath());
        Files.delete(dir);
    }

    /** The face's methods, with the names of what they take. */
    private static TreeMap<String, String> face(String document) {
        TreeMap<String, String> face = new TreeMap<>();
        Matcher m = Pattern.compile("public int (\\w+)\\(([^)]*)\\);").matcher(document);
        while (m.find()) face.put(m.group(1), m.group(2).replace("int ", ""));
        return face;
    }

    private void needAllCalls(String document) {
        need(called.equals(face(document).keySet()), "the examples call " + called);
        for (String refusal : "-2 -3 -4 -11 -12 -13 -14 -15 -16".split(" ")) {
            need(answers.contains(refusal), "no example comes to " + refusal);
        }
    }

    private static List<String> refusalsIn(String text) {
        List<String> all = new ArrayList<>();
        Matcher m = REFUSAL.matcher(text);
        while (m.find()) all.add(m.group());
        return all;
    }

    /** Each call has one row, which takes what the face says and names the refusals of its promise, in their order. */
    private static void rows(List<String> page, String document) {
        TreeMap<String, String> left = face(document);
        Pattern row = Pattern.compile("\\| `(\\w+)\\(([^)]*)\\)` \\| (.+) \\| ?(.*) ?\\|");
        for (String line : page) {
            Matcher m = row.matcher(line);
            if (!m.matches()) continue;
            String takes = left.remove(m.group(1));
            need(m.group(2).equals(takes), "the row of " + m.group(1) + " takes " + m.group(2) + ", due is " + takes);
            Matcher promise = Pattern.compile("\n`int " + m.group(1) + "\\([^)]*\\)`: (.*)\n").matcher(document);
            need(promise.find(), "no promise of " + m.group(1));
            List<String> due = refusalsIn(promise.group(1));
            need(refusalsIn(m.group(4)).equals(due), "the row of " + m.group(1) + " refuses by " + m.group(4) + ", due is " + due);
        }
        need(left.isEmpty(), "no rows of " + left.keySet());
    }

    private static void refusals(List<String> page) {
        String all = String.join("\n", page);
        for (String name : new String[] {"`BAD` (" + SkylineNester.BAD + ")", "`STATE` (" + SkylineNester.STATE + ")",
            "`FULL` (" + SkylineNester.FULL + ")", "-11", "-12", "-13", "-14", "-15", "-16"}) {
            need(all.contains("\n| " + name + " | "), "the table of refusals has no " + name);
        }
        need(all.contains("`NONE` (" + SkylineNester.NONE + ")"), "NONE isn't told");
    }
}
