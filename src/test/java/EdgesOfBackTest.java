import java.util.List;
import java.util.function.Supplier;
import java.util.function.ToIntFunction;

/** The boundary cases that promises 41 to 44 name, sentence by sentence. */
public final class EdgesOfBackTest {
    private static final int NONE = StackedScript.NONE;
    private static final int LEAST = Integer.MIN_VALUE;
    private static final int GREATEST = Integer.MAX_VALUE;

    private EdgesOfBackTest() {
    }

    public static void main(String[] args) {
        promise41UndoRefused();
        promise41Undo();
        promise41EachAsAWhole();
        promise41Eldest();
        promise41NotUndoable();
        promise42Image();
        promise43Restore();
        promise43RestoreRefused();
        promise43NothingUndone();
        promise44Count();
        promise44CountOthers();
        Check.end();
    }

    // "n calls (1 to 10) are UNDONE ... -3: n, more than can be."
    private static void promise41UndoRefused() {
        int[] wrong = {LEAST, -2, -1, 0, 11, 12, GREATEST};
        Whole.eachUnchanged("undo", Start::fresh, StackedScript::undo, -3, wrong);
        Whole.eachUnchanged("undo", Start::some, StackedScript::undo, -3, wrong);
        Whole.eachUnchanged("undo", Start::full, StackedScript::undo, -3, wrong);
        Whole.eachUnchanged("undo none", Start::fresh, StackedScript::undo, -3, 1, 2, 10);
        Whole.eachUnchanged("undo one", Start::noText, StackedScript::undo, -3, 2, 3, 10);
        Whole.eachUnchanged("undo five", Start::some, StackedScript::undo, -3, 6, 7, 10);
    }

    // "how many still can be."
    private static void promise41Undo() {
        for (int n = 1; n <= 5; n++) {
            StackedScript s = Start.some();
            Check.due("undo " + n + " of five", s.undo(n), 5 - n);
            Check.due("that many are left", s.count(4), 5 - n);
            Check.due("no more than these", s.undo(6 - n), -3);
        }
        for (int n = 1; n <= 10; n++) {
            Check.due("undo " + n + " of ten", Start.full().undo(n), 10 - n);
        }
        StackedScript s = Start.full();
        for (int n = 9; n >= 0; n--) {
            Check.due("one by one", s.undo(1), n);
        }
        Check.due("none left", s.undo(1), -3);
    }

    /** One more call can be undone, and all is as it was then (with ten of them already the eldest is forgotten). */
    private static void undoes(String what, Supplier<StackedScript> start, ToIntFunction<StackedScript> call) {
        StackedScript s = start.get();
        int undoable = s.count(4);
        int answer = call.applyAsInt(s);
        Check.due(what + " isn't refused", answer >= 0 ? 1 : 0, 1);
        Check.due(what + " can be undone", s.count(4), Math.min(10, undoable + 1));
        Check.due(what + " is undone", s.undo(1), Math.min(9, undoable));
        Supplier<StackedScript> behind = () -> {
            StackedScript x = start.get();
            call.applyAsInt(x);
            x.undo(1);
            return x;
        };
        Check.same("the text is as it was ahead of " + what, Check.textOf(s), Check.textOf(start.get()));
        Check.same("what is shown, too, ahead of " + what, Check.glyphsOf(s), Check.glyphsOf(start.get()));
        if (undoable < 10) {
            Check.same("all is as it was ahead of " + what, Whole.stateOf(behind), Whole.stateOf(start));
        }
    }

    // "Calls that told THE SCRIPT, THE TEXT ... can be UNDONE each as a whole"
    private static void promise41EachAsAWhole() {
        for (Supplier<StackedScript> start : List.<Supplier<StackedScript>>of(Start::some, Start::noText, Start::full)) {
            undoes("script", start, s -> s.script(0));
            undoes("another script", Start.taped(start, "consonants eb;virama k;ra b;stack be;half e;joins ee;"),
                s -> s.script(53));
            undoes("text", start, s -> s.text(0));
            undoes("another text", Start.taped(start, "zokhso"), s -> s.text(6));
            undoes("erase", start, StackedScript::erase);
            undoes("mended", start, StackedScript::mended);
        }
        for (Supplier<StackedScript> start : List.<Supplier<StackedScript>>of(Start::some, Start::noText)) {
            undoes("insert", start, s -> s.insert(0, 10));
            undoes("order", start, StackedScript::order);
        }
        for (Supplier<StackedScript> start : List.<Supplier<StackedScript>>of(Start::some, Start::full)) {
            undoes("backspace", start, s -> s.backspace(1));
            undoes("delete", start, s -> s.delete(0));
        }
    }

    // "the latest first, 10 at most (eldest are forgotten)"
    private static void promise41Eldest() {
        for (int calls = 1; calls <= 24; calls++) {
            StackedScript s = new StackedScript();
            for (int i = 0; i < calls; i++) {
                s.insert(i, i);
            }
            int undoable = Math.min(10, calls);
            Check.due("undoable of " + calls, s.count(4), undoable);
            Check.due("more of " + calls, s.undo(undoable + 1), -3);
            Check.due("all undone of " + calls, s.undo(undoable), 0);
            Check.due("left of " + calls, s.count(0), calls - undoable);
            Check.due("the eldest is forgotten of " + calls, s.undo(1), -3);
        }
        StackedScript s = new StackedScript();
        for (int i = 0; i < 11; i++) {
            s.insert(0, i);
        }
        Check.due("the latest first", s.undo(1), 9);
        Check.due("it is the last one put in", s.at(0), 9);
        Check.due("a new one takes its place", s.insert(0, 25), 11);
        Check.due("ten again", s.count(4), 10);
        Check.due("nine undone", s.undo(9), 1);
        Check.due("the one left", s.undo(1), 0);
        Check.row("the first one stays", s::at, 0, NONE);
    }

    // "not refused"; "all but THE TAPE and the FAULT"; calls that tell nothing.
    private static void promise41NotUndoable() {
        StackedScript s = Start.some();
        s.feed(0, 0, 0, 0, 0);
        s.find(0, 0);
        s.insert(-1, 0);
        s.insert(0, 26);
        s.backspace(0);
        s.delete(20);
        s.script(1);
        s.text(1);
        Check.text(s, "1");
        Check.script(s, "1");
        Check.text(s, Check.times("k", 61));
        s.undo(6);
        s.image(1);
        s.image(0);
        s.restore(2);
        s.next(0, 1);
        s.next(0, 2);
        s.x(0);
        s.x(2);
        s.may(0);
        s.may(21);
        s.mend(NONE);
        s.back(NONE);
        s.even(20);
        s.find(1, 0);
        Check.due("five as before", s.count(4), 5);
        s.find(0, 0);
        s.erase();
        Check.text(s, "ab1");
        Check.feed(s, "abc");
        Check.due("undone", s.undo(1), 5);
        Check.due("the tape isn't", s.count(3), 20);
        Check.row("the fault isn't", s::fault, 1, 2);
    }

    // "An IMAGE is made: 0. -2."
    private static void promise42Image() {
        int[] none = {LEAST, -2, -1, 2, 3, GREATEST};
        Whole.eachUnchanged("image", Start::some, StackedScript::image, -2, none);
        Whole.eachUnchanged("image", Start::fresh, StackedScript::image, -2, none);
        for (int i = 0; i < 2; i++) {
            StackedScript s = Start.some();
            Check.due("image " + i, s.image(i), 0);
            Check.row("nothing else changes", s::count, 20, 17, 1, 20, 5, 33, 2, 2);
            Check.row("nor does the fault", s::fault, 2, 9);
            s.erase();
            s.script(0);
            Check.due("restore " + i, s.restore(i), 0);
            Check.same("its text " + i, Check.textOf(s), Start.SOME);
            Check.due("its script " + i, s.count(1), 17);
        }
        StackedScript s = Start.fresh();
        Check.due("of nothing", s.image(0), 0);
        Check.text(s, "k");
        Check.due("restored", s.restore(0), 0);
        Check.due("nothing", s.count(0), 0);
        Check.due("the other wasn't made", s.restore(1), -6);
    }

    // "All that is in an IMAGE is as it was: 0."
    private static void promise43Restore() {
        StackedScript s = Start.some();
        s.image(0);
        Check.due("image 1", s.restore(1), 0);
        Check.same("ka", Check.textOf(s), "ka");
        Check.due("image 0", s.restore(0), 0);
        Check.same("some", Check.textOf(s), Start.SOME);
        Check.row("all of it", s::count, 20, 17, 1, 20, 0, 33, 2, 2);
        Check.due("image 0 once more", s.restore(0), 0);
        s.insert(0, 0);
        s.image(0);
        s.undo(1);
        Check.due("the newer image 0", s.restore(0), 0);
        Check.due("it is longer", s.count(0), 21);
        Check.due("image 1 is as it was", s.restore(1), 0);
        Check.same("ka again", Check.textOf(s), "ka");
        // The same as ahead of the image, but for undoing and the images.
        StackedScript back = Start.some();
        back.image(0);
        Check.script(back, "");
        back.script(0);
        back.text(0);
        back.restore(0);
        Check.same("what is shown", Check.glyphsOf(back), Check.glyphsOf(Start.some()));
        Check.row("ks joins", i -> back.joins(10, 18 + i), 1, 0);
        Check.row("o is split", what -> back.letter('o' - 'a', what), 9, 0, 0, 0, 8, 0);
        Check.row("r is ra", what -> back.letter('r' - 'a', what), 1, 1, 0, 0, NONE, NONE);
        Check.row("t stacks", what -> back.letter('t' - 'a', what), 1, 0, 1, 0, NONE, NONE);
        Check.row("g has a half", what -> back.letter('g' - 'a', what), 1, 0, 0, 1, NONE, NONE);
    }

    // "-2; -6: none was made."
    private static void promise43RestoreRefused() {
        int[] none = {LEAST, -2, -1, 2, 3, GREATEST};
        Whole.eachUnchanged("restore: -2 ahead of -6", Start::fresh, StackedScript::restore, -2, none);
        Whole.eachUnchanged("restore", Start::some, StackedScript::restore, -2, none);
        Whole.eachUnchanged("restore", Start::full, StackedScript::restore, -2, none);
        Whole.eachUnchanged("restore none", Start::fresh, StackedScript::restore, -6, 0, 1);
        Whole.unchanged("restore the one that wasn't made", Start::some, s -> s.restore(0), -6);
        Whole.unchanged("a refused image makes none", () -> {
            StackedScript s = Start.some();
            s.image(2);
            s.image(-1);
            return s;
        }, s -> s.restore(0), -6);
    }

    // "nothing can be UNDONE behind."
    private static void promise43NothingUndone() {
        for (Supplier<StackedScript> start : List.<Supplier<StackedScript>>of(Start::some, Start::full)) {
            StackedScript s = start.get();
            s.restore(1);
            Check.due("none can be undone", s.count(4), 0);
            Whole.eachUnchanged("undo", () -> Whole.with(start, x -> x.restore(1)), StackedScript::undo, -3, 1, 10);
            int letters = s.count(0);
            s.erase();
            Check.due("but what comes behind", s.undo(1), 0);
            Check.due("the text", s.count(0), letters);
        }
    }

    // "0 LETTERS of THE TEXT, 1 LETTERS that have a KIND, ..."
    private static void promise44Count() {
        Check.row("none", Start.fresh()::count, 0, 0, 0, 0, 0, 0, 0, 0, NONE);
        StackedScript s = new StackedScript();
        s.feed(0, 0, 0, 0, 0);
        Check.row("bytes", s::count, 0, 0, 0, 20, 0, 0, 0, 0);
        s.find(0, 0);
        Check.script(s, "consonants abcdefghijklmnopqrstuvwxy;virama z;joins aa;joins ab;");
        Check.row("all letters", s::count, 0, 26, 2, 0, 1, 0, 0, 0);
        Check.text(s, Check.times("z", 60));
        Check.row("sixty broken ones", s::count, 60, 26, 2, 0, 2, 180, 0, 60);
        StackedScript joiners = Check.told("jbkhjkhbkhjhbj");
        Check.row("joiners: j, b, a half's, a whole one's, a dead one's, a broken one's, j", joiners::count, 14, 17, 1, 0,
            2, 13, 7, 3);
        Check.row("full", Start.full()::count, 60, 17, 1, 400, 10, 135, 0, 0);
    }

    // "NONE for others."
    private static void promise44CountOthers() {
        Whole.eachUnchanged("count", Start::some, StackedScript::count, NONE, LEAST, -2, -1, 8, 9, GREATEST);
        Whole.eachUnchanged("count", Start::fresh, StackedScript::count, NONE, LEAST, -1, 8, GREATEST);
    }
}
