import java.util.function.Supplier;
import java.util.function.ToIntFunction;

/**
 * All that can be asked of an object, as one text. An object answers 512 calls only, so
 * it is asked of as many objects as it takes, all made by the same calls.
 */
final class Whole {
    private static final int CALLS_A_PIECE = 400;
    private static final int LETTERS = 26;
    private static final int PLACES = 62;

    /** A call with one number. */
    interface Call {
        int of(StackedScript s, int i);
    }

    private final Supplier<StackedScript> start;
    private final StringBuilder row = new StringBuilder();
    private StackedScript s;
    private int calls = 0;

    private Whole(Supplier<StackedScript> start) {
        this.start = start;
        this.s = start.get();
    }

    /** All but the tape and the fault. */
    static String stateOf(Supplier<StackedScript> start) {
        Whole whole = new Whole(start);
        whole.told();
        whole.clusters();
        whole.glyphs();
        whole.carets();
        whole.past();
        return whole.row.toString();
    }

    /** How many bytes the tape has, what they are read as, the fault. */
    static String tapeOf(Supplier<StackedScript> start) {
        Whole whole = new Whole(start);
        whole.ask("bytes", StackedScript::count, 3, 3);
        whole.ask("fault", StackedScript::fault, 0, 1);
        int bytes = start.get().count(3);
        Whole script = new Whole(() -> with(start, x -> x.script(bytes)));
        script.ask("read as a script", StackedScript::fault, 0, 1);
        script.letters();
        Whole text = new Whole(() -> with(start, x -> x.text(Math.min(60, bytes))));
        text.ask("read as a text", StackedScript::fault, 0, 1);
        text.ask("letters", StackedScript::at, 0, PLACES);
        return whole.row.append(script.row).append(text.row).toString();
    }

    static StackedScript with(Supplier<StackedScript> start, ToIntFunction<StackedScript> call) {
        StackedScript s = start.get();
        call.applyAsInt(s);
        return s;
    }

    private void ask(String what, Call call, int from, int to) {
        row.append('\n').append(what).append(':');
        for (int i = from; i <= to; i++) {
            if (calls == CALLS_A_PIECE) {
                s = start.get();
                calls = 0;
            }
            calls++;
            row.append(' ').append(call.of(s, i));
        }
    }

    private void letters() {
        for (int what = 0; what < 6; what++) {
            int asked = what;
            ask("letter, what " + what, (x, i) -> x.letter(i, asked), 0, LETTERS - 1);
        }
        for (int a = 0; a < LETTERS; a++) {
            int first = a;
            ask("joins " + a, (x, i) -> x.joins(first, i), 0, LETTERS - 1);
        }
    }

    private void told() {
        letters();
        ask("count", StackedScript::count, 0, 2);
        ask("undoable", StackedScript::count, 4, 7);
        ask("at", StackedScript::at, 0, PLACES);
    }

    private void clusters() {
        int clusters = start.get().clusters();
        ask("clusters", (x, i) -> x.clusters(), 0, 0);
        for (int what = 0; what < 11; what++) {
            int asked = what;
            ask("cluster, what " + what, (x, i) -> x.cluster(i, asked), 0, clusters);
        }
        ask("of", StackedScript::of, 0, PLACES);
        ask("broken", StackedScript::broken, -1, clusters);
        ask("mend", StackedScript::mend, -1, PLACES);
        ask("may", StackedScript::may, 0, PLACES);
        ask("alike", (x, i) -> x.alike(i, i + 1), 0, clusters);
        ask("compare", (x, i) -> x.compare(i, clusters - 1), 0, clusters);
        ask("ranked", StackedScript::ranked, 0, clusters);
        ask("kinds", (x, i) -> x.kinds(), 0, 0);
    }

    private void glyphs() {
        int glyphs = start.get().glyphs();
        ask("glyphs", (x, i) -> x.glyphs(), 0, 0);
        for (int what = 0; what < 7; what++) {
            int asked = what;
            ask("glyph, what " + what, (x, i) -> x.glyph(i, asked), 0, glyphs);
        }
        ask("shown", StackedScript::shown, 0, PLACES);
        ask("back", StackedScript::back, -1, 2 * PLACES);
        ask("isOrdered", (x, i) -> x.isOrdered(), 0, 0);
    }

    private void carets() {
        ask("stops", (x, i) -> x.stops(), 0, 0);
        ask("stop", StackedScript::stop, 0, PLACES);
        ask("next above", (x, i) -> x.next(i, 1), 0, PLACES);
        ask("next below", (x, i) -> x.next(i, -1), 0, PLACES);
        ask("x", StackedScript::x, 0, PLACES);
        ask("hit", (x, i) -> x.hit(i * 7), 0, PLACES);
        ask("lines", (x, i) -> x.lines(i), 1, 40);
        ask("lineEnd", (x, i) -> x.lineEnd(20, i), 0, 20);
        ask("even", (x, i) -> x.even(i), 1, 40);
        ask("evenEnd", (x, i) -> x.evenEnd(20, i), 0, 20);
        ask("narrowest", StackedScript::narrowest, 1, 10);
    }

    /** What undoing and images bring back. */
    private void past() {
        int undoable = start.get().count(4);
        for (int n = 1; n <= undoable + 1; n++) {
            int asked = n;
            remembered("undo " + n, x -> x.undo(asked));
        }
        for (int i = 0; i < 2; i++) {
            int asked = i;
            remembered("restore " + i, x -> x.restore(asked));
        }
    }

    private void remembered(String what, ToIntFunction<StackedScript> call) {
        Whole whole = new Whole(() -> with(start, call));
        row.append('\n').append(what).append(": ").append(call.applyAsInt(start.get()));
        whole.told();
        row.append(whole.row);
    }

    // ---- what the tests say of it

    /** A call that is refused, or that merely asks: its answer, and nothing at all is changed by it. */
    static void unchanged(String what, Supplier<StackedScript> start, ToIntFunction<StackedScript> call, int answer) {
        Check.due(what, call.applyAsInt(start.get()), answer);
        Supplier<StackedScript> behind = () -> with(start, call);
        Check.same("all that there is behind " + what, stateOf(behind), stateOf(start));
        Check.same("the tape behind " + what, tapeOf(behind), tapeOf(start));
    }

    /** The same for each of some numbers. */
    static void eachUnchanged(String what, Supplier<StackedScript> start, Call call, int answer, int... numbers) {
        for (int number : numbers) {
            unchanged(what + " of " + number, start, x -> call.of(x, number), answer);
        }
    }

    /** A refused text: the tape is empty then, the fault is told, nothing else changes. */
    static void emptied(String what, Supplier<StackedScript> start, ToIntFunction<StackedScript> call, int code,
        int fault, int place) {
        Check.due(what, call.applyAsInt(start.get()), code);
        Supplier<StackedScript> behind = () -> with(start, call);
        Check.same("all that there is behind " + what, stateOf(behind), stateOf(start));
        Check.due("the tape behind " + what, behind.get().count(3), 0);
        Check.due("the fault behind " + what, behind.get().fault(0), fault);
        Check.due("its place behind " + what, behind.get().fault(1), place);
    }
}
