import java.lang.reflect.Method;
import java.util.Arrays;
import java.util.Comparator;

/** All calls in any state with any arguments: none throws, and refused ones change nothing. */
public final class AnyArgumentsTest {
    private static final int[] EDGES = {Integer.MIN_VALUE, Integer.MIN_VALUE + 1, -1000000, -31, -7, -2, -1, 0, 1, 2, 3, 5,
        6, 7, 9, 10, 11, 12, 20, 25, 26, 27, 31, 32, 33, 40, 58, 59, 60, 61, 62, 63, 64, 120, 121, 180, 200, 201, 399, 400,
        401, 999, 1000, 65536, 1 << 30, Integer.MAX_VALUE - 1, Integer.MAX_VALUE};

    private static long seed = 5;

    private AnyArgumentsTest() {
    }

    private static int below(int n) {
        seed = seed * 6364136223846793005L + 1442695040888963407L;
        return (int) ((seed >>> 33) % n);
    }

    public static void main(String[] args) throws Exception {
        Method[] calls = Arrays.stream(StackedScript.class.getDeclaredMethods())
            .filter(call -> java.lang.reflect.Modifier.isPublic(call.getModifiers()))
            .sorted(Comparator.comparing(Method::getName)).toArray(Method[]::new);
        Check.due("calls", calls.length, 43);
        for (int run = 0; run < 300; run++) {
            run(calls, run);
        }
        Check.end();
    }

    private static void run(Method[] calls, int run) throws Exception {
        StackedScript s = run % 3 == 0 ? new StackedScript() : Check.told(letters(run % 3 == 1 ? 60 : 20));
        for (int k = 0; k < 480; k++) {
            if (below(20) == 0) {
                Check.text(s, letters(60));
            }
            Method call = calls[below(calls.length)];
            Integer[] with = new Integer[call.getParameterCount()];
            for (int i = 0; i < with.length; i++) {
                with[i] = below(2) == 0 ? below(12) : EDGES[below(EDGES.length)];
            }
            String what = call.getName() + Arrays.toString(with);
            String state = stateOf(s);
            int tape = s.count(3);
            int answer = (Integer) call.invoke(s, (Object[]) with);
            if (answer < -1) {
                Check.same("the state behind refused " + what, stateOf(s), state);
                boolean empties = answer < -30 || answer == -4 && call.getName().equals("text");
                Check.due("the tape behind refused " + what, s.count(3), empties ? 0 : tape);
            }
            boolean isCode = answer >= -6 || answer >= -33 && answer <= -31;
            Check.due("an answer that can be of " + what, isCode ? 1 : 0, 1);
        }
    }

    private static String stateOf(StackedScript s) {
        return Check.textOf(s) + " " + s.count(1) + " " + s.count(2) + " " + s.count(4) + " " + s.glyphs();
    }

    private static String letters(int most) {
        StringBuilder text = new StringBuilder();
        for (int p = below(most + 1); p > 0; p--) {
            text.append("kgtrsehniudaomzjbxhhkh".charAt(below(22)));
        }
        return text.toString();
    }
}
