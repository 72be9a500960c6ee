import java.lang.reflect.Method;
import java.nio.charset.StandardCharsets;
import java.nio.file.Files;
import java.nio.file.Path;
import java.util.HashMap;
import java.util.Map;
import java.util.regex.Matcher;
import java.util.regex.Pattern;

/** README.md: its examples answer what they say, and it names every call, every word and every code. */
public final class ReadmeTest {
    private static final Pattern CALL = Pattern.compile("^s\\.(\\w+)\\(([^)]*)\\);\\s*// (-?\\d+)$");
    private static final Pattern NAMED = Pattern.compile("`(\\w+)\\(([^)`]*)\\)`");
    private static final String[] WORDS = {"consonants", "vowels", "virama", "nukta", "before", "above", "below",
        "behind", "splits", "marks", "tails", "joiner", "breaker", "ra", "stack", "half", "joins"};
    private static final int[] CODES = {-1, -2, -3, -4, -5, -6, -31, -32, -33};

    private ReadmeTest() {
    }

    public static void main(String[] args) throws Exception {
        String page = Files.readString(Path.of("README.md"), StandardCharsets.UTF_8);
        Map<String, Method> face = new HashMap<>();
        for (Method method : StackedScript.class.getDeclaredMethods()) {
            if (java.lang.reflect.Modifier.isPublic(method.getModifiers())) {
                face.put(method.getName(), method);
            }
        }
        examples(page, face);
        calls(page, face);
        for (String word : WORDS) {
            Check.due("`" + word + "` is told of", page.contains("`" + word + "`") ? 1 : 0, 1);
        }
        for (int code : CODES) {
            Check.due("code " + code + " is told of", page.contains("\n| " + code + " | ") ? 1 : 0, 1);
        }
        Check.end();
    }

    private static void examples(String page, Map<String, Method> face) throws Exception {
        StackedScript s = new StackedScript();
        int made = 0;
        boolean isCode = false;
        for (String line : page.split("\n")) {
            if (line.startsWith("```")) {
                isCode = line.equals("```java");
            } else if (isCode && line.equals("StackedScript s = new StackedScript();")) {
                s = new StackedScript();
                made++;
            } else if (isCode && !line.startsWith("//")) {
                Matcher call = CALL.matcher(line);
                Check.due("\"" + line + "\" is a call with its answer", call.matches() ? 1 : 0, 1);
                Check.due(line, answer(s, face.get(call.group(1)), call.group(2)), Integer.parseInt(call.group(3)));
            }
        }
        Check.due("examples", made, 2);
    }

    private static int answer(StackedScript s, Method method, String given) throws Exception {
        String[] parts = given.isEmpty() ? new String[0] : given.split(", ");
        Object[] numbers = new Object[parts.length];
        for (int i = 0; i < parts.length; i++) {
            numbers[i] = Long.decode(parts[i]).intValue();
        }
        return (Integer) method.invoke(s, numbers);
    }

    /** Every call is named with as many arguments as it takes, and none that there isn't. */
    private static void calls(String page, Map<String, Method> face) {
        Map<String, Integer> named = new HashMap<>();
        Matcher found = NAMED.matcher(page);
        while (found.find()) {
            named.put(found.group(1), found.group(2).isEmpty() ? 0 : found.group(2).split(", ").length);
            Check.due(found.group() + " is there", face.containsKey(found.group(1)) ? 1 : 0, 1);
        }
        for (Method method : face.values()) {
            int takes = named.getOrDefault(method.getName(), -1);
            Check.due(method.getName() + " is told of with its arguments", takes, method.getParameterCount());
        }
    }
}
