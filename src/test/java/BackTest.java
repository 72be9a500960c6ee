/** Promises 41 to 44: undo, image, restore, count. */
public final class BackTest {
    private static final int NONE = StackedScript.NONE;

    private BackTest() {
    }

    public static void main(String[] args) {
        undo();
        undoRefused();
        undoCounted();
        notCounted();
        eldestForgotten();
        images();
        imagesRefused();
        count();
        readme();
        Check.end();
    }

    private static void undo() {
        StackedScript s = Check.told("khs");
        s.insert(3, 'i' - 'a');
        s.backspace(1);
        s.delete(0);
        s.order();
        s.mended();
        s.erase();
        Check.script(s, "virama k;");
        Check.text(s, "zz");
        Check.due("all counted", s.count(4), 10);
        Check.due("the text", s.undo(1), 9);
        Check.due("its letters", s.count(0), 0);
        Check.due("the script", s.undo(1), 8);
        Check.due("its kinds", s.count(1), 17);
        Check.due("its traits", s.letter('t' - 'a', 2), 1);
        Check.due("its parts", s.letter('o' - 'a', 4), 'i' - 'a');
        Check.due("its ra", s.letter('r' - 'a', 1), 1);
        Check.due("its halves", s.letter('g' - 'a', 3), 1);
        Check.due("its pairs", s.joins('k' - 'a', 's' - 'a') + s.count(2), 2);
        Check.due("erase, mended, order", s.undo(3), 5);
        Check.same("back", Check.textOf(s), "si");
        Check.due("delete", s.undo(1), 4);
        Check.same("back", Check.textOf(s), "hsi");
        Check.due("what is shown, too", s.broken(0), 0);
        Check.due("backspace, insert", s.undo(2), 2);
        Check.same("back", Check.textOf(s), "khs");
        Check.due("all of it", s.undo(2), 0);
        Check.due("no kinds", s.count(1), 0);
        Check.due("no text", s.count(0), 0);
        Check.due("nothing left", s.undo(1), -3);
    }

    private static void undoRefused() {
        StackedScript s = Check.told("k");
        Check.due("0", s.undo(0), -3);
        Check.due("below", s.undo(-1), -3);
        Check.due("11", s.undo(11), -3);
        Check.due("more than can be", s.undo(3), -3);
        Check.due("least", s.undo(Integer.MIN_VALUE), -3);
        Check.due("most", s.undo(Integer.MAX_VALUE), -3);
        Check.due("nothing changed", s.count(4), 2);
        Check.feed(s, "abc");
        Check.due("the tape stays", s.undo(2), 0);
        Check.due("its bytes", s.count(3), 20);
    }

    private static void undoCounted() {
        StackedScript s = Check.told("");
        Check.due("two", s.count(4), 2);
        s.erase();
        Check.due("erase of none", s.count(4), 3);
        s.mended();
        Check.due("mended without any", s.count(4), 4);
        s.order();
        Check.due("order without any", s.count(4), 5);
        s.script(0);
        Check.due("an empty script", s.count(4), 6);
        s.text(0);
        Check.due("an empty text", s.count(4), 7);
    }

    private static void notCounted() {
        StackedScript s = Check.told("kok");
        Check.text(s, "1");
        Check.text(s, Check.times("a", 61));
        Check.script(s, "foo;");
        s.script(1);
        s.text(1);
        s.insert(9, 0);
        s.insert(0, 26);
        s.backspace(0);
        s.delete(1);
        Check.due("refused ones", s.count(4), 2);
        s.next(0, 1);
        s.x(0);
        s.may(0);
        Check.find(s, "k", 0);
        s.mend(0);
        s.image(0);
        s.stop(0);
        s.fault(0);
        Check.due("those that tell nothing", s.count(4), 2);
    }

    private static void eldestForgotten() {
        StackedScript s = Check.told("");
        for (int i = 0; i < 25; i++) {
            s.insert(i, i);
            Check.due("at most ten", s.count(4), Math.min(10, i + 3));
        }
        Check.due("ten", s.undo(10), 0);
        Check.due("letters left", s.count(0), 15);
        Check.due("the eleventh is forgotten", s.undo(1), -3);
        s.insert(0, 3);
        Check.due("from there on", s.undo(1), 0);
        Check.same("letters", Check.textOf(s), "abcdefghijklmno");
    }

    private static void images() {
        StackedScript s = Check.told("khs");
        Check.due("image", s.image(0), 0);
        Check.due("an image takes no undoing away", s.count(4), 2);
        s.erase();
        Check.script(s, "marks m;");
        Check.text(s, "mm");
        Check.due("image", s.image(1), 0);
        Check.feed(s, "k");
        Check.due("restore", s.restore(0), 0);
        Check.same("its text", Check.textOf(s), "khs");
        Check.due("its script", s.count(1), 17);
        Check.due("its pairs", s.cluster(0, 8), 1);
        Check.due("the tape stays", s.count(3), 20);
        Check.due("nothing can be undone", s.count(4), 0);
        Check.due("nothing can be undone", s.undo(1), -3);
        s.insert(0, 0);
        Check.due("but what comes behind", s.undo(1), 0);
        Check.due("the other", s.restore(1), 0);
        Check.same("its text", Check.textOf(s), "mm");
        Check.due("its script", s.count(1), 1);
        Check.due("what is shown", s.broken(NONE), 1);
        Check.due("an image is made anew", s.image(0), 0);
        s.erase();
        Check.due("restored", s.restore(0), 0);
        Check.same("the newer one", Check.textOf(s), "mm");
        Check.due("more than once", s.restore(0), 0);
        s.insert(0, 1);
        s.undo(1);
        Check.due("undoing leaves images", s.restore(1), 0);
    }

    private static void imagesRefused() {
        StackedScript s = new StackedScript();
        Check.due("none made", s.restore(0), -6);
        Check.due("none made", s.restore(1), -6);
        Check.due("no such", s.restore(2), -2);
        Check.due("no such", s.restore(-1), -2);
        Check.due("no such", s.image(2), -2);
        Check.due("no such", s.image(-1), -2);
        Check.due("one made", s.image(1), 0);
        Check.due("not the other", s.restore(0), -6);
        Check.due("an empty one", s.restore(1), 0);
        Check.text(s, "k");
        Check.due("refused", s.restore(0), -6);
        Check.due("undoing stays", s.count(4), 1);
    }

    private static void count() {
        StackedScript s = Check.told("khbsjekhjmnhj");
        Check.feed(s, "a");
        // k v b s: 4 + 4; j; e: 4; khjm: 4; nhj: 3.
        Check.row("count", s::count, 13, 17, 1, 20, 2, 19, 4, 3, NONE);
        Check.due("below", s.count(-1), NONE);
        Check.due("far", s.count(Integer.MAX_VALUE), NONE);
        Check.due("the tape is emptied", s.find(0, 0), NONE);
        Check.text(s, "k");
        Check.row("count of less", s::count, 1, 17, 1, 0, 3, 4, 0, 0, NONE);
    }

    /** What README.md shows. */
    private static void readme() {
        StackedScript s = new StackedScript();
        s.feed(0x636f6e73, 0x6f6e616e, 0x7473206b, 0x733b7669, 0x72616d61);
        s.feed(0x20683b62, 0x65666f72, 0x6520693b, 0x20202020, 0x20202020);
        Check.due("script", s.script(40), 4);
        s.feed(0x6b687369, 0, 0, 0, 0);
        Check.due("text", s.text(4), 4);
        Check.due("clusters", s.clusters(), 1);
        Check.due("shown first", s.glyph(0, 1), 8);
    }
}
