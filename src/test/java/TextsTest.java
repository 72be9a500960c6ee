/** Promises 1 to 10: texts, order. */
public final class TextsTest {
    private TextsTest() {
    }

    public static void main(String[] args) {
        aNewObject();
        feeding();
        scripts();
        scriptFaultOne();
        scriptFaultTwo();
        scriptFaultThree();
        scriptRefused();
        texts();
        faults();
        inserting();
        backspacing();
        deleting();
        erasing();
        ordering();
        Check.end();
    }

    private static void aNewObject() {
        StackedScript s = new StackedScript();
        Check.due("NONE", StackedScript.NONE, -1);
        for (int letter = 0; letter < 26; letter++) {
            int asked = letter;
            Check.row("new letter " + letter, what -> s.letter(asked, what), 0, 0, 0, 0, -1, -1, -2);
        }
        Check.row("new count", s::count, 0, 0, 0, 0, 0, 0, 0, 0, -1);
        Check.row("new fault", s::fault, 0, -1, -1);
        Check.due("new at", s.at(0), -1);
        Check.due("new clusters", s.clusters(), 0);
        Check.due("new stops", s.stops(), 1);
        Check.due("new glyphs", s.glyphs(), 0);
        Check.due("new back", s.back(-1), 0);
        Check.due("new undo", s.undo(1), -3);
        Check.due("new restore 0", s.restore(0), -6);
        Check.due("new restore 1", s.restore(1), -6);
    }

    private static void feeding() {
        StackedScript s = new StackedScript();
        // "abcd" is the highest byte first.
        Check.due("feed", s.feed(0x61626364, 0x65666768, 0x696a6b6c, 0x6d6e6f70, 0x71727374), 20);
        Check.due("fed", s.count(3), 20);
        Check.due("text fed", s.text(20), 20);
        Check.same("order of bytes", Check.textOf(s), "abcdefghijklmnopqrst");
        Check.due("tape behind text", s.count(3), 0);
        for (int i = 1; i <= 20; i++) {
            Check.due("feed " + i, s.feed(0x20202020, 0x20202020, 0x20202020, 0x20202020, 0x20202020), 20 * i);
        }
        Check.due("feed beyond", s.feed(0, 0, 0, 0, 0), -3);
        Check.due("tape full", s.count(3), 400);
        Check.due("blanks are a script", s.script(400), 0);
        Check.due("feed high bytes", s.feed(-1, 0, 0, 0, 0), 20);
        Check.due("high bytes", s.text(1), -31);
        Check.due("feed a, then another", s.feed(0x61000000, 0, 0, 0, 0), 20);
        Check.due("feed behind", s.feed(0x62000000, 0, 0, 0, 0), 40);
        Check.due("first of them", s.text(1), 1);
        Check.due("a", s.at(0), 0);
    }

    private static void scripts() {
        StackedScript s = new StackedScript();
        Check.due("script", Check.script(s, Check.SCRIPT), 17);
        Check.due("empty tape", s.count(3), 0);
        String letters = "kgtrsehniudaomzjb";
        int[] kinds = {1, 1, 1, 1, 1, 2, 3, 4, 5, 6, 7, 8, 9, 10, 11, 12, 13};
        for (int i = 0; i < kinds.length; i++) {
            Check.due("kind of " + letters.charAt(i), s.letter(letters.charAt(i) - 'a', 0), kinds[i]);
        }
        Check.text(s, "khs");
        Check.due("the text stays", Check.script(s, "consonants s;virama h;"), 2);
        Check.same("its letters", Check.textOf(s), "khs");
        Check.due("the old kind is gone", s.letter('k' - 'a', 0), 0);
        Check.due("the old ra is gone", s.letter('r' - 'a', 1), 0);
        Check.due("the old stack is gone", s.letter('t' - 'a', 2), 0);
        Check.due("the old half is gone", s.letter('g' - 'a', 3), 0);
        Check.due("the old parts are gone", s.letter('o' - 'a', 4), -1);
        Check.due("the old pairs are gone", s.count(2), 0);
        Check.due("clusters anew", s.clusters(), 3);
        Check.due("empty", s.script(0), 0);
        Check.due("no kinds at all", s.letter('s' - 'a', 0), 0);
        Check.feed(s, "consonants k; rubbish");
        Check.due("the first n bytes alone", s.script(13), 1);
        Check.due("the tape is empty then", s.count(3), 0);
        Check.due("blanks anywhere", Check.script(s, "  consonants   k  ;   stack  k  ;   "), 1);
        Check.due("no blanks at all but between word and row", Check.script(s, "marks a;marks b;tails c;"), 3);
        Check.due("all letters", Check.script(s, "consonants abcdefghijklmnopqrstuvwxyz;"), 26);
        Check.due("a trait told twice on two lines", Check.script(s, "consonants k;half k;half k;stack k;"), 1);
        Check.due("parts alike", Check.script(s, "above i;splits oii;"), 2);
        Check.due("pairs either way", Check.script(s, "consonants kg;joins kg;joins gk;joins kk;"), 2);
        Check.due("how many pairs", s.count(2), 3);
        Check.due("8 pairs", Check.script(s, eightPairs()), 3);
        Check.due("8 pairs told", s.count(2), 8);
    }

    private static String eightPairs() {
        return "consonants abc;joins aa;joins ab;joins ac;joins ba;joins bb;joins bc;joins ca;joins cb;";
    }

    private static void faulty(String text, int fault, int place) {
        StackedScript s = Check.told("khs");
        Check.due("\"" + text + "\"", Check.script(s, text), -30 - fault);
        Check.due("fault of \"" + text + "\"", s.fault(0), fault);
        Check.due("place of \"" + text + "\"", s.fault(1), place);
        Check.due("tape of \"" + text + "\"", s.count(3), 0);
        Check.due("script stays at \"" + text + "\"", s.count(1), 17);
        Check.due("pairs stay at \"" + text + "\"", s.count(2), 1);
        Check.due("not undoable \"" + text + "\"", s.count(4), 2);
        Check.same("text stays at \"" + text + "\"", Check.textOf(s), "khs");
    }

    private static void scriptFaultOne() {
        faulty(";", 1, 0);
        faulty("  ;", 1, 2);
        faulty("1", 1, 0);
        faulty("Marks a;", 1, 0);
        faulty("marks", 1, 5);
        faulty("marks  ", 1, 7);
        faulty("marks;", 1, 5);
        faulty("marks ;", 1, 6);
        faulty("marks 1", 1, 6);
        faulty("marks a", 1, 7);
        faulty("marks a  ", 1, 9);
        faulty("marks a b;", 1, 8);
        faulty("marks aA;", 1, 7);
        faulty("marks a;;", 1, 8);
        faulty("marks\ta;", 1, 5);
        faulty("marks a\u0000;", 1, 7);
        faulty("marks a\u00e1;", 1, 7);
        faulty("virama h;virama ;", 1, 16);
    }

    private static void scriptFaultTwo() {
        faulty("mark a;", 2, 0);
        faulty("markss a;", 2, 0);
        faulty("consonant k;", 2, 0);
        faulty("vowel a;", 2, 0);
        faulty("split a;", 2, 0);
        faulty("join a;", 2, 0);
        faulty("r k;", 2, 0);
        faulty("rak;", 2, 0);
        faulty("virama h; foo", 2, 10);
        faulty("virama h;k1", 2, 9);
        faulty("marks a;  m arks b;", 2, 10);
    }

    private static void scriptFaultThree() {
        faulty("consonants kk;", 3, 11);
        faulty("consonants kk", 3, 11);
        faulty("consonants  kgk 1", 3, 12);
        faulty("consonants k;vowels ek;", 3, 20);
        faulty("vowels aa;", 3, 7);
        faulty("before aa;", 3, 7);
        faulty("above aa;", 3, 6);
        faulty("below aa;", 3, 6);
        faulty("behind aa;", 3, 7);
        faulty("marks aa;", 3, 6);
        faulty("tails aa;", 3, 6);
        for (String once : new String[] {"virama", "nukta", "joiner", "breaker"}) {
            int at = once.length() + 1;
            faulty(once + " ab;", 3, at);
            faulty(once + " a;" + once + " b;", 3, 2 * at + 2);
            faulty("marks a;" + once + " a;", 3, at + 8);
        }
        faulty("ra r;", 3, 3);
        faulty("vowels r;ra r;", 3, 12);
        faulty("consonants rk;ra rk;", 3, 17);
        faulty("consonants r;ra r;ra r;", 3, 21);
        faulty("ra r;consonants r;", 3, 3);
        faulty("stack k;", 3, 6);
        faulty("half k;", 3, 5);
        faulty("consonants k;stack kk;", 3, 19);
        faulty("consonants k;half kg;", 3, 18);
        faulty("vowels k;half k;", 3, 14);
        faulty("consonants kg;joins k;", 3, 20);
        faulty("consonants kg;joins kgk;", 3, 20);
        faulty("consonants k;joins ke;", 3, 19);
        faulty("consonants k;joins ek;", 3, 19);
        faulty("consonants kg;joins kg;joins kg;", 3, 29);
        faulty(eightPairs() + "joins cc;", 3, eightPairs().length() + 6);
        faulty(eightPairs() + "joins aa;", 3, eightPairs().length() + 6);
        faulty("before i;splits oi;", 3, 16);
        faulty("before i;splits oiii;", 3, 16);
        faulty("before i;splits iii;", 3, 16);
        faulty("before i;splits oio;", 3, 16);
        faulty("before i;splits ooi;", 3, 16);
        faulty("before i;splits oie;", 3, 16);
        faulty("splits oia;before i;", 3, 7);
        faulty("before i;marks m;splits oim;", 3, 24);
        faulty("before i;vowels e;splits oei;", 3, 25);
        faulty("before i;splits oii;splits poi;", 3, 27);
        faulty("before i;vowels o;splits oii;", 3, 25);
    }

    private static void scriptRefused() {
        StackedScript s = new StackedScript();
        Check.due("nothing there", s.script(1), -3);
        Check.feed(s, "consonants k;");
        Check.due("below 0", s.script(-1), -3);
        Check.due("above the tape", s.script(21), -3);
        Check.due("least", s.script(Integer.MIN_VALUE), -3);
        Check.due("most", s.script(Integer.MAX_VALUE), -3);
        Check.due("the tape stays", s.count(3), 20);
        Check.due("then it is read", s.script(20), 1);
        Check.due("one call", s.count(4), 1);
    }

    private static void texts() {
        StackedScript s = Check.told("");
        Check.due("an empty text", s.count(0), 0);
        Check.due("text", Check.text(s, "kaz"), 3);
        Check.same("its letters", Check.textOf(s), "kaz");
        Check.feed(s, "mmm");
        Check.due("below 0", s.text(-1), -3);
        Check.due("above the tape", s.text(21), -3);
        Check.due("most", s.text(Integer.MAX_VALUE), -3);
        Check.due("the tape stays", s.count(3), 20);
        Check.due("a part of the tape", s.text(2), 2);
        Check.due("the tape is empty", s.count(3), 0);
        Check.same("the two", Check.textOf(s), "mm");
        for (String bad : new String[] {"k ", "kA", "k`", "k{", "k\u0000", "k\u00e1"}) {
            Check.due("a bad byte", Check.text(s, bad), -31);
            Check.due("its place", s.fault(1), 1);
            Check.due("the tape then", s.count(3), 0);
            Check.same("the text stays", Check.textOf(s), "mm");
        }
        Check.due("the first bad byte", Check.text(s, "aaaaa1a1"), -31);
        Check.due("where it is", s.fault(1), 5);
        Check.due("sixty", Check.text(s, Check.times("k", 60)), 60);
        Check.due("sixty-one", Check.text(s, Check.times("a", 61)), -4);
        Check.due("the tape then", s.count(3), 0);
        Check.due("too many ahead of bytes", Check.text(s, Check.times("1", 61)), -4);
        Check.due("the text stays", s.at(59), 'k' - 'a');
        Check.feed(s, Check.times("a", 61));
        Check.due("-3 ahead of -4", s.text(81), -3);
        Check.due("none at all", s.text(0), 0);
        Check.due("no letters", s.at(0), -1);
    }

    private static void faults() {
        StackedScript s = new StackedScript();
        Check.due("bad script", Check.script(s, "virama h;foo k;"), -32);
        Check.row("fault", s::fault, 2, 9, -1, -1);
        Check.due("others", s.fault(-1), -1);
        Check.due("refused", s.script(1), -3);
        Check.row("fault stays", s::fault, 2, 9);
        Check.due("text refused", s.text(-1), -3);
        Check.row("fault stays too", s::fault, 2, 9);
        Check.feed(s, "k");
        s.find(1, 0);
        Check.row("fault stays behind find", s::fault, 2, 9);
        Check.due("a good text", Check.text(s, "k"), 1);
        Check.row("no fault", s::fault, 0, -1);
        Check.due("a bad text", Check.text(s, "kk1"), -31);
        Check.row("its fault", s::fault, 1, 2);
        s.undo(1);
        Check.row("undoing leaves it", s::fault, 1, 2);
        s.image(0);
        s.restore(0);
        Check.row("images leave it", s::fault, 1, 2);
        Check.due("too many", Check.text(s, Check.times("1", 61)), -4);
        Check.row("no fault then", s::fault, 0, -1);
        Check.due("a bad script", Check.script(s, "marks a"), -31);
        Check.row("its fault and end", s::fault, 1, 7);
        Check.due("an empty script", s.script(0), 0);
        Check.row("no fault again", s::fault, 0, -1);
    }

    private static void inserting() {
        StackedScript s = Check.told("ks");
        Check.due("between", s.insert(1, 'h' - 'a'), 3);
        Check.same("between", Check.textOf(s), "khs");
        Check.due("ahead", s.insert(0, 0), 4);
        Check.due("behind", s.insert(4, 25), 5);
        Check.same("all", Check.textOf(s), "akhsz");
        Check.due("clusters are made anew", s.clusters(), 2);
        Check.due("no letter", s.insert(0, -1), -3);
        Check.due("no letter", s.insert(0, 26), -3);
        Check.due("the letter ahead of the place", s.insert(9, 26), -3);
        Check.due("no place", s.insert(6, 0), -5);
        Check.due("no place", s.insert(-1, 0), -5);
        Check.text(s, Check.times("k", 59));
        Check.due("the sixtieth", s.insert(59, 0), 60);
        Check.due("one too many", s.insert(60, 0), -4);
        Check.due("the place ahead of too many", s.insert(61, 0), -5);
        Check.due("the letter ahead of too many", s.insert(0, 99), -3);
        Check.due("still sixty", s.count(0), 60);
    }

    private static void backspacing() {
        StackedScript s = Check.told("khsz");
        Check.due("none ahead of 0", s.backspace(0), -5);
        Check.due("none below", s.backspace(-1), -5);
        Check.due("none behind", s.backspace(5), -5);
        Check.due("least", s.backspace(Integer.MIN_VALUE), -5);
        Check.due("the last", s.backspace(4), 'z' - 'a');
        Check.due("the second", s.backspace(2), 'h' - 'a');
        Check.same("left", Check.textOf(s), "ks");
        Check.due("clusters anew", s.clusters(), 2);
        Check.due("the first", s.backspace(1), 'k' - 'a');
        Check.due("the one left", s.backspace(1), 's' - 'a');
        Check.due("none left", s.backspace(1), -5);
    }

    private static void deleting() {
        StackedScript s = Check.told("ekhsizg");
        Check.due("no stop", s.delete(2), -5);
        Check.due("the end has none behind", s.delete(7), -5);
        Check.due("below", s.delete(-1), -5);
        Check.due("above", s.delete(8), -5);
        Check.due("a cluster", s.delete(1), 5);
        Check.same("left", Check.textOf(s), "eg");
        Check.due("the last", s.delete(1), 1);
        Check.due("the first", s.delete(0), 1);
        Check.due("none", s.delete(0), -5);
        Check.due("undone as a whole", s.undo(3), 2);
        Check.same("all there", Check.textOf(s), "ekhsizg");
    }

    private static void erasing() {
        StackedScript s = Check.told("khs");
        Check.due("erase", s.erase(), 3);
        Check.due("none left", s.count(0), 0);
        Check.due("clusters", s.clusters(), 0);
        Check.due("none to erase", s.erase(), 0);
        Check.due("that can be undone too", s.count(4), 4);
        Check.due("the script stays", s.count(1), 17);
    }

    private static void ordering() {
        StackedScript s = Check.told("kozmiak");
        Check.due("order", s.order(), 8);
        Check.same("told as it is shown", Check.textOf(s), "kiamziak");
        Check.due("ordered", s.isOrdered(), 1);
        Check.due("undone", s.undo(1), 2);
        Check.same("as it was", Check.textOf(s), "kozmiak");
        Check.text(s, "kaduizm");
        Check.due("order of kinds", s.order(), 7);
        Check.same("by 5 6 7 8, marks ahead of tails", Check.textOf(s), "kiudamz");
        Check.text(s, "k" + Check.times("o", 29) + "k");
        Check.due("sixty", s.order(), 60);
        Check.text(s, "k" + Check.times("o", 30));
        int undoable = s.count(4);
        Check.due("sixty-one", s.order(), -4);
        Check.due("not undoable", s.count(4), undoable);
        Check.due("the text stays", s.count(0), 31);
        s.erase();
        Check.due("none", s.order(), 0);
    }
}
