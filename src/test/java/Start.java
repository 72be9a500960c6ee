import java.util.function.Supplier;

/** Objects to begin with, each made anew by the same few calls. */
final class Start {
    /** e ko khsim h x rhkhtu khj b: eight clusters, the fourth one broken. */
    static final String SOME = "ekokhsimhxrhkhtukhjb";
    /** Where they begin and end, and X there. */
    static final int[] STOPS = {0, 1, 3, 8, 9, 10, 16, 19, 20};
    static final int[] XS = {0, 4, 12, 19, 22, 25, 29, 33, 33};
    /** What the tape of some() has. */
    static final String TAPE = "khsimkoabcdefghijklm";

    private Start() {
    }

    static StackedScript fresh() {
        return new StackedScript();
    }

    /** The usual script, no text, nothing on the tape. */
    static StackedScript noText() {
        StackedScript s = new StackedScript();
        Check.script(s, Check.SCRIPT);
        return s;
    }

    /** Five calls that can be undone, image 1 and not image 0, fault 2 at place 9, twenty bytes on the tape. */
    static StackedScript some() {
        StackedScript s = Check.told("ka");
        s.image(1);
        Check.text(s, SOME);
        s.insert(SOME.length(), 'k' - 'a');
        s.backspace(SOME.length() + 1);
        Check.script(s, "virama h;foo k;");
        Check.feed(s, TAPE);
        return s;
    }

    /** Sixty letters (fifteen clusters khso), ten calls that can be undone, both images, a full tape. */
    static StackedScript full() {
        StackedScript s = Check.told("kaduizm");
        s.image(0);
        for (int i = 0; i < 9; i++) {
            s.insert(i, i);
        }
        s.image(1);
        Check.text(s, Check.times("khso", 15));
        Check.feed(s, Check.SCRIPT + Check.times(" ", 400 - Check.SCRIPT.length()));
        return s;
    }

    /** The same with another tape: find(0, 0) empties it and tells nothing. */
    static Supplier<StackedScript> taped(Supplier<StackedScript> start, String tape) {
        return () -> {
            StackedScript s = start.get();
            s.find(0, 0);
            Check.feed(s, tape);
            return s;
        };
    }
}
