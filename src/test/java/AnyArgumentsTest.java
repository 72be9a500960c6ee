import java.lang.reflect.Method;
import java.lang.reflect.Modifier;
import java.util.Arrays;
import java.util.Comparator;
import java.util.function.ToIntFunction;

/**
 * All calls in any state with any arguments: none throws, and refused ones change nothing,
 * which is told by a twin that isn't called with them and answers all the others alike.
 */
public final class AnyArgumentsTest {
    private static final int[] EDGES = {Integer.MIN_VALUE, Integer.MIN_VALUE + 1, -1000000, -31, -7, -2, -1, 0, 1, 2, 3, 5,
        6, 7, 9, 10, 11, 12, 20, 25, 26, 27, 31, 32, 33, 40, 58, 59, 60, 61, 62, 63, 64, 120, 121, 180, 200, 201, 399, 400,
        401, 999, 1000, 65536, 1 << 30, Integer.MAX_VALUE - 1, Integer.MAX_VALUE};
    private static final int CALLS = 512;
    private static final int CALLS_OF_TEXT = 4;

    private static long seed = 5;

    private final StackedScript all = new StackedScript();
    private final StackedScript twin = new StackedScript();
    private int calls = 0;

    private AnyArgumentsTest() {
    }

    private static int below(int n) {
        seed = seed * 6364136223846793005L + 1442695040888963407L;
        return (int) ((seed >>> 33) % n);
    }

    public static void main(String[] args) throws Exception {
        Method[] calls = Arrays.stream(StackedScript.class.getDeclaredMethods())
            .filter(call -> Modifier.isPublic(call.getModifiers()))
            .sorted(Comparator.comparing(Method::getName)).toArray(Method[]::new);
        Check.due("calls", calls.length, 43);
        for (int run = 0; run < 400; run++) {
            new AnyArgumentsTest().run(calls, run);
        }
        Check.end();
    }

    private void run(Method[] face, int run) throws Exception {
        if (run % 3 != 0) {
            both(s -> Check.script(s, Check.SCRIPT), 1 + Check.SCRIPT.length() / 20 + 1);
        }
        while (calls < CALLS - CALLS_OF_TEXT) {
            if (below(20) == 0 && all.count(3) == 0) {
                String text = letters(run % 3 == 1 ? 60 : 20);
                both(s -> Check.text(s, text), CALLS_OF_TEXT);
            }
            calls += 2;
            Method call = face[below(face.length)];
            Integer[] with = new Integer[call.getParameterCount()];
            for (int i = 0; i < with.length; i++) {
                with[i] = below(2) == 0 ? below(12) : EDGES[below(EDGES.length)];
            }
            compare(call, with);
        }
    }

    private void both(ToIntFunction<StackedScript> call, int many) {
        calls += many;
        Check.due("told", call.applyAsInt(all), call.applyAsInt(twin));
    }

    private void compare(Method call, Integer[] with) throws Exception {
        String what = call.getName() + Arrays.toString(with);
        int answer = (Integer) call.invoke(all, (Object[]) with);
        boolean isCode = answer >= -6 || answer >= -33 && answer <= -31;
        Check.due("an answer that can be of " + what, isCode ? 1 : 0, 1);
        boolean emptiesTape = answer < -30 || answer == -4 && call.getName().equals("text");
        if (answer >= -1 || emptiesTape) {
            Check.due(what + " as the twin", answer, (Integer) call.invoke(twin, (Object[]) with));
        }
        if (emptiesTape) {
            Check.due("the tape behind " + what, all.count(3), 0);
        }
    }

    private static String letters(int most) {
        StringBuilder text = new StringBuilder();
        for (int p = below(most + 1); p > 0; p--) {
            text.append("kgtrsehniudaomzjbxhhkh".charAt(below(22)));
        }
        return text.toString();
    }
}
