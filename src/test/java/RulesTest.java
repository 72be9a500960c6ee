import java.lang.management.ManagementFactory;
import java.lang.reflect.Constructor;
import java.lang.reflect.Field;
import java.lang.reflect.Method;
import java.lang.reflect.Modifier;
import java.nio.charset.StandardCharsets;
import java.nio.file.Files;
import java.nio.file.Path;
import java.util.ArrayList;
import java.util.HashSet;
import java.util.List;
import java.util.Set;
import java.util.TreeSet;
import java.util.regex.Matcher;
import java.util.regex.Pattern;

/** The face, the rules of LANGUAGE.md that can be looked up, and the room that calls take. */
public final class RulesTest {
    private static final Path SOURCE = Path.of("src/main/java/StackedScript.java");
    private static final String FACE = "alike at back backspace broken cluster clusters compare count delete erase even "
        + "evenEnd fault feed find glyph glyphs hit image insert isOrdered joins kinds letter lineEnd lines may mend "
        + "mended narrowest next of order ranked restore script shown stop stops text undo x";
    private static final String[] BANNED = {"throw", "throws", "try", "catch", "finally", "synchronized", "assert",
        "import", "package", "yield", "native", "volatile", "transient", "Object", "System\\.out", "Exact", "equals",
        "hashCode", "toString", "->", "::", "\\bNaN\\b", "instanceof", "while"};

    private RulesTest() {
    }

    public static void main(String[] args) throws Exception {
        face();
        names();
        String source = Files.readString(SOURCE, StandardCharsets.ISO_8859_1);
        words(source);
        methods(source);
        room();
        Check.end();
    }

    private static void face() {
        Set<String> open = new TreeSet<>();
        for (Method method : StackedScript.class.getDeclaredMethods()) {
            if (!Modifier.isPrivate(method.getModifiers())) {
                open.add(method.getName());
                Check.due(method + " is public", method.getModifiers(), Modifier.PUBLIC);
                Check.same(method + " answers", method.getReturnType().getName(), "int");
            }
        }
        Check.same("the face", String.join(" ", open), FACE);
        for (Constructor<?> made : StackedScript.class.getDeclaredConstructors()) {
            Check.due(made + " is public", made.getModifiers(), Modifier.PUBLIC);
            Check.due(made + " takes nothing", made.getParameterCount(), 0);
        }
        for (Field field : StackedScript.class.getDeclaredFields()) {
            boolean isNone = field.getName().equals("NONE");
            Check.due(field + " is private", Modifier.isPrivate(field.getModifiers()) ? 1 : 0, isNone ? 0 : 1);
        }
        Check.due("public and final", StackedScript.class.getModifiers(), Modifier.PUBLIC | Modifier.FINAL);
    }

    private static List<Class<?>> all() {
        List<Class<?>> all = new ArrayList<>(List.of(StackedScript.class.getDeclaredClasses()));
        all.add(StackedScript.class);
        return all;
    }

    private static void names() {
        Set<String> face = new HashSet<>(List.of(FACE.split(" ")));
        Check.due("some twelve classes", all().size() <= 12 ? 1 : 0, 1);
        for (Class<?> one : all()) {
            int fields = 0;
            for (Field field : one.getDeclaredFields()) {
                boolean isStatic = Modifier.isStatic(field.getModifiers());
                fields += isStatic ? 0 : 1;
                Check.due(field + " is no static state", isStatic && !Modifier.isFinal(field.getModifiers()) ? 1 : 0, 0);
            }
            Check.due(one + " has some twenty fields", fields <= 20 ? 1 : 0, 1);
            for (Method method : one.getDeclaredMethods()) {
                boolean isFace = one == StackedScript.class && Modifier.isPublic(method.getModifiers());
                Check.due(method + " bears a name of the face", face.contains(method.getName()) ? 1 : 0, isFace ? 1 : 0);
                Check.due(method + " takes at most seven", method.getParameterCount() <= 7 ? 1 : 0, 1);
            }
            boolean isInside = one != StackedScript.class;
            Check.due(one + " is static and private", isInside && !Modifier.isStatic(one.getModifiers()) ? 1 : 0, 0);
        }
    }

    private static void words(String source) {
        for (char sign : source.toCharArray()) {
            if (sign < 10 || sign > 126) {
                Check.due("a sign of the source", sign, 32);
            }
        }
        String bare = source.replaceAll("//.*", "").replaceAll("(?s)/\\*.*?\\*/", "").replaceAll("\"[^\"]*\"", "0");
        for (String word : BANNED) {
            String asked = Character.isLetter(word.charAt(0)) ? "\\b" + word + "\\b" : word;
            Matcher found = Pattern.compile(asked).matcher(bare);
            Check.due("\"" + word + "\" in the source", found.find() ? 1 : 0, 0);
        }
    }

    /** Methods end within some sixty lines: told by how far their lines are put in. */
    private static void methods(String source) {
        String[] lines = source.split("\n");
        int from = -1;
        String by = "";
        for (int i = 0; i < lines.length; i++) {
            Matcher head = Pattern.compile("^( {4}| {8})[a-z].*\\) \\{$").matcher(lines[i]);
            if (from < 0 && head.find()) {
                from = i;
                by = head.group(1);
            } else if (from >= 0 && lines[i].equals(by + "}")) {
                Check.due(lines[from].trim() + " is short", i - from <= 60 ? 1 : 0, 1);
                from = -1;
            }
        }
    }

    /** Rows are made with the object: no call takes room of its own. */
    private static void room() {
        com.sun.management.ThreadMXBean threads = (com.sun.management.ThreadMXBean) ManagementFactory.getThreadMXBean();
        StackedScript warm = new StackedScript();
        dearCalls(warm);
        long made = threads.getCurrentThreadAllocatedBytes();
        StackedScript s = new StackedScript();
        made = threads.getCurrentThreadAllocatedBytes() - made;
        Check.due("a new object takes less than 64 KiB", made < 65536 ? 1 : 0, 1);
        long called = threads.getCurrentThreadAllocatedBytes();
        dearCalls(s);
        called = threads.getCurrentThreadAllocatedBytes() - called;
        Check.due("calls take no room, but for the measuring", called < 4096 ? 1 : 0, 1);
    }

    private static void dearCalls(StackedScript s) {
        s.feed(0x62656869, 0x6e642061, 0x3b766972, 0x616d6120, 0x683b2020);
        s.script(20);
        for (int i = 0; i < 60; i++) {
            s.insert(i, i % 3);
        }
        for (int i = 0; i < 60; i++) {
            s.mend(i);
            s.may(i);
            s.narrowest(1 + i);
            s.even(200);
            s.ranked(i);
            s.kinds();
            s.order();
        }
    }
}
