import java.lang.reflect.Array;
import java.lang.reflect.Field;
import java.lang.reflect.Method;
import java.lang.reflect.Modifier;
import java.nio.file.Files;
import java.nio.file.Path;
import java.util.ArrayList;
import java.util.Collections;
import java.util.HashSet;
import java.util.IdentityHashMap;
import java.util.List;
import java.util.Set;
import java.util.TreeSet;
import java.util.regex.Matcher;
import java.util.regex.Pattern;

/** The rules of ../shared/LANGUAGE.md that a program can look after. To be run in the project's root. */
public final class LanguageTest {
    private static final Path SOURCE = Path.of("src/main/java/SkylineNester.java");
    private static final Path DOCUMENT = Path.of("../shared/DOC.md");
    private static final String[] FORBIDDEN = {"throw", "try", "catch", "finally", "synchronized", "assert", "volatile",
        "transient", "native", "instanceof", "super", "Object", "System.out", "Float", "Double", "Exact", "yield", "var"};

    private static int wrong = 0;

    public static void main(String[] args) throws Exception {
        String source = Files.readString(SOURCE);
        face(Files.readString(DOCUMENT));
        privateNames();
        classes();
        words(source);
        calls(source);
        methods(source);
        room();
        System.out.println("LanguageTest: " + wrong + " wrong");
        if (wrong != 0) System.exit(1);
    }

    private static void need(boolean held, String what) {
        if (held) return;
        wrong++;
        System.out.println("LanguageTest: " + what);
    }

    private static List<Class<?>> all() {
        List<Class<?>> all = new ArrayList<>();
        all.add(SkylineNester.class);
        Collections.addAll(all, SkylineNester.class.getDeclaredClasses());
        return all;
    }

    /** Rule 1: the document's face, and nothing else that is not private. */
    private static void face(String document) {
        Set<String> due = new TreeSet<>();
        Matcher m = Pattern.compile("public int (\\w+)\\(([^)]*)\\);").matcher(document);
        while (m.find()) {
            int many = m.group(2).isEmpty() ? 0 : m.group(2).split(",").length;
            due.add(m.group(1) + "(" + String.join(",", Collections.nCopies(many, "int")) + ")");
        }
        Set<String> found = new TreeSet<>();
        for (Method method : SkylineNester.class.getDeclaredMethods()) {
            if (Modifier.isPrivate(method.getModifiers())) continue;
            StringBuilder s = new StringBuilder(method.getName()).append('(');
            for (Class<?> c : method.getParameterTypes()) s.append(s.charAt(s.length() - 1) == '(' ? "" : ",").append(c);
            found.add(s.append(')').toString());
            need(Modifier.isPublic(method.getModifiers()), method + " is not public");
            need(method.getReturnType() == int.class, method + " answers no int");
        }
        need(!due.isEmpty(), "the document tells no methods");
        need(due.equals(found), "the face is " + found + ", due is " + due);
        Set<String> constants = new TreeSet<>();
        for (Field f : SkylineNester.class.getDeclaredFields()) {
            if (!Modifier.isPrivate(f.getModifiers())) constants.add(f.getName());
        }
        need(constants.equals(new TreeSet<>(List.of("NONE", "BAD", "STATE", "FULL"))), "constants are " + constants);
        need(Modifier.isFinal(SkylineNester.class.getModifiers()), "the class is not final");
        need(SkylineNester.class.getDeclaredConstructors().length == 1, "not one constructor");
    }

    private static void privateNames() {
        Set<String> names = new HashSet<>();
        for (Method m : SkylineNester.class.getDeclaredMethods()) {
            if (Modifier.isPublic(m.getModifiers())) names.add(m.getName());
        }
        for (Class<?> c : all()) {
            for (Method m : c.getDeclaredMethods()) {
                boolean ofFace = c == SkylineNester.class && Modifier.isPublic(m.getModifiers());
                need(ofFace || !names.contains(m.getName()), m + " bears the name of a public one");
            }
        }
    }

    /** Rules 2, 3, 5 and 11. */
    private static void classes() {
        need(all().size() <= 12, all().size() + " classes");
        for (Class<?> c : all()) {
            int own = 0;
            for (Field f : c.getDeclaredFields()) {
                boolean isStatic = Modifier.isStatic(f.getModifiers());
                need(!isStatic || Modifier.isFinal(f.getModifiers()), f + " is static and not final");
                if (!isStatic) own++;
            }
            need(own <= 20, c + " has " + own + " fields");
            for (Method m : c.getDeclaredMethods()) need(m.getParameterCount() <= 7, m + " takes too many");
            if (c == SkylineNester.class) continue;
            need(Modifier.isStatic(c.getModifiers()), c + " is not static");
            need(!Modifier.isPublic(c.getModifiers()) && !Modifier.isProtected(c.getModifiers()), c + " is public");
            need(c.getDeclaredClasses().length == 0, c + " has classes inside");
        }
    }

    private static String bare(String source) {
        return source.replaceAll("(?s)/\\*.*?\\*/", "").replaceAll("//[^\n]*", "").replaceAll("'[^']*'", "' '");
    }

    private static void words(String source) {
        String bare = bare(source);
        for (String word : FORBIDDEN) {
            need(!Pattern.compile("\\b" + Pattern.quote(word) + "\\b").matcher(bare).find(), "'" + word + "' stands in the class");
        }
        need(!bare.contains("->") && !bare.contains("::"), "a lambda or a method reference");
        need(!bare.contains("\""), "a text");
        need(!bare.contains("package "), "a package line");
        for (char c : source.toCharArray()) need(c < 128, "the character " + (int) c);
        Matcher m = Pattern.compile("import ([^;]+);").matcher(bare);
        while (m.find()) need(m.group(1).equals("java.util.Arrays"), "import " + m.group(1));
        Matcher f = Pattern.compile("\\b(Math|System|Arrays|Integer|Long)\\.(\\w+)").matcher(bare);
        Set<String> known = Set.of("Math.min", "Math.max", "System.arraycopy", "Arrays.fill");
        while (f.find()) need(known.contains(f.group()), f.group() + " is not of the library that is used here");
    }

    /** Rule 12: only constructors and what stands at fields make objects here, so no call makes any. */
    private static void calls(String source) {
        Set<String> inConstructors = Set.of("racks[k] = new Rack();", "sheets[k] = new Sheet();",
            "for (int k = 0; k < MOST_PARTS; k++) parts[k] = new Part();",
            "for (int k = 0; k < MOST_PARTS; k++) items[k] = new Part();");
        for (String line : bare(source).split("\n")) {
            String text = line.trim();
            if (!text.matches(".*\\bnew\\b.*")) continue;
            boolean field = text.matches("(private )?final [\\w\\[\\]]+ \\w+ = new [^;]+;");
            need(field || inConstructors.contains(text), "an object is made by: " + text);
        }
    }

    /** Rule 11: some sixty lines a method. */
    private static void methods(String source) {
        String[] lines = source.split("\n");
        for (int k = 0; k < lines.length; k++) {
            if (!lines[k].matches("\\s+[\\w\\[\\] ]+\\([^;]*\\) \\{") || lines[k].matches("\\s+(if|for|while|switch|else).*")) continue;
            String indent = lines[k].substring(0, lines[k].length() - lines[k].stripLeading().length());
            int end = k;
            while (end < lines.length && !lines[end].equals(indent + "}")) end++;
            need(end - k <= 60, "a long method: " + lines[k].trim());
            need(lines[k].length() <= 120, "a long line: " + lines[k].trim());
        }
    }

    /** What one object takes of the room in which all calls of a run live. */
    private static void room() throws Exception {
        Set<Object> seen = Collections.newSetFromMap(new IdentityHashMap<>());
        long elements = walk(new SkylineNester(), seen);
        need(seen.size() < 200, "one object is of " + seen.size() + " objects");
        need(elements < 5000, "one object is of " + elements + " fields and elements");
    }

    private static long walk(Object o, Set<Object> seen) throws Exception {
        if (o == null || !seen.add(o)) return 0;
        long elements = 0;
        if (o.getClass().isArray()) {
            elements += Array.getLength(o);
            if (o.getClass().getComponentType().isPrimitive()) return elements;
            for (int k = 0; k < Array.getLength(o); k++) elements += walk(Array.get(o, k), seen);
            return elements;
        }
        for (Field f : o.getClass().getDeclaredFields()) {
            if (Modifier.isStatic(f.getModifiers())) continue;
            f.setAccessible(true);
            elements++;
            if (!f.getType().isPrimitive()) elements += walk(f.get(o), seen);
        }
        return elements;
    }
}
