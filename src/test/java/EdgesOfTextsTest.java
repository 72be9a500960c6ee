/** The boundary cases that promises 1 to 10 name, sentence by sentence. */
public final class EdgesOfTextsTest {
    private static final int NONE = StackedScript.NONE;
    private static final int LEAST = Integer.MIN_VALUE;
    private static final int GREATEST = Integer.MAX_VALUE;
    private static final int[] NO_LETTERS = {LEAST, -2, -1, 26, 27, 97, GREATEST};

    private EdgesOfTextsTest() {
    }

    public static void main(String[] args) {
        theStarts();
        promise1NewObject();
        promise1NewObjectRefuses();
        promise2Feed();
        promise3Script();
        promise3ScriptFaults();
        promise4Text();
        promise4TextBytes();
        promise4TextTooMany();
        promise5Fault();
        promise5FaultStays();
        promise6Insert();
        promise6InsertFull();
        promise7Backspace();
        promise8Delete();
        promise9Erase();
        promise10Order();
        Check.end();
    }

    /** That the objects to begin with are what they are told to be. */
    private static void theStarts() {
        Check.row("some", Start.some()::count, 20, 17, 1, 20, 5, 33, 2, 2);
        Check.row("its fault", Start.some()::fault, 2, 9);
        Check.row("full", Start.full()::count, 60, 17, 1, 400, 10, 135, 0, 0);
        Check.row("no text", Start.noText()::count, 0, 17, 1, 0, 1, 0, 0, 0);
    }

    // "No KINDS, no TEXT."
    private static void promise1NewObject() {
        StackedScript s = new StackedScript();
        Check.row("count", s::count, 0, 0, 0, 0, 0, 0, 0, 0, NONE);
        for (int letter = 0; letter < 26; letter++) {
            int asked = letter;
            Check.row("letter " + letter, what -> s.letter(asked, what), 0, 0, 0, 0, NONE, NONE, -2);
            Check.due("joins itself " + letter, s.joins(letter, letter), 0);
        }
        Check.due("clusters", s.clusters(), 0);
        Check.due("glyphs", s.glyphs(), 0);
        Check.due("stops", s.stops(), 1);
        Check.row("stop", s::stop, 0, NONE);
        Check.due("back", s.back(NONE), 0);
        Check.due("broken", s.broken(NONE), 0);
        Check.due("mend", s.mend(NONE), 0);
        Check.due("may", s.may(0), 0x3ffffff);
        Check.due("ordered", s.isOrdered(), 1);
        Check.due("x", s.x(0), 0);
        Check.row("hit", s::hit, 0, 0, 0);
        Check.due("lines", s.lines(1), 0);
        Check.due("even", s.even(1), 0);
        Check.due("kinds", s.kinds(), 0);
        Check.row("fault", s::fault, 0, NONE, NONE);
        Check.due("find", s.find(0, 0), NONE);
        Check.due("erase", new StackedScript().erase(), 0);
        Check.due("order", new StackedScript().order(), 0);
        Check.due("mended", new StackedScript().mended(), 0);
        Check.due("script", new StackedScript().script(0), 0);
        Check.due("text", new StackedScript().text(0), 0);
        Check.due("image", new StackedScript().image(1), 0);
    }

    private static void promise1NewObjectRefuses() {
        Whole.unchanged("script", Start::fresh, s -> s.script(1), -3);
        Whole.unchanged("text", Start::fresh, s -> s.text(1), -3);
        Whole.unchanged("find", Start::fresh, s -> s.find(1, 0), -3);
        Whole.unchanged("insert", Start::fresh, s -> s.insert(1, 0), -5);
        Whole.unchanged("backspace", Start::fresh, s -> s.backspace(0), -5);
        Whole.unchanged("delete", Start::fresh, s -> s.delete(0), -5);
        Whole.unchanged("undo", Start::fresh, s -> s.undo(1), -3);
        Whole.unchanged("restore 0", Start::fresh, s -> s.restore(0), -6);
        Whole.unchanged("restore 1", Start::fresh, s -> s.restore(1), -6);
        Whole.unchanged("cluster", Start::fresh, s -> s.cluster(0, 0), -2);
        Whole.unchanged("glyph", Start::fresh, s -> s.glyph(0, 0), -2);
        Whole.unchanged("at", Start::fresh, s -> s.at(0), NONE);
        Whole.unchanged("ranked", Start::fresh, s -> s.ranked(0), NONE);
    }

    // "Twenty bytes come behind those on THE TAPE, the highest of each int first: how many it has."
    // "-3: it would have more than 400."
    private static void promise2Feed() {
        StackedScript s = new StackedScript();
        for (int bytes = 20; bytes <= 400; bytes += 20) {
            Check.due("feed to " + bytes, s.feed(0x6b6b6b6b, 0x6b6b6b6b, 0x6b6b6b6b, 0x6b6b6b6b, 0x6b6b6b6b), bytes);
        }
        Check.due("one more", s.feed(0, 0, 0, 0, 0), -3);
        Check.due("still 400", s.count(3), 400);
        Check.due("the tape was read", s.text(60), 60);
        Check.due("there is room again", s.feed(0, 0, 0, 0, 0), 20);
        Whole.unchanged("feed a full tape", Start::full, x -> x.feed(0x61616161, LEAST, GREATEST, -1, 0), -3);
        bytesOf(LEAST, 128, 0, 0, 0);
        bytesOf(GREATEST, 127, 255, 255, 255);
        bytesOf(-1, 255, 255, 255, 255);
        bytesOf(0x61627a7b, 'a', 'b', 'z', '{');
        bytesOf(0, 0, 0, 0, 0);
    }

    /** Each of the five ints with these bytes: told by which of them is the first that is no letter. */
    private static void bytesOf(int asked, int... bytes) {
        int first = 0;
        while (first < 4 && bytes[first] >= 'a' && bytes[first] <= 'z') {
            first++;
        }
        for (int k = 0; k < 5; k++) {
            int[] ints = {0x61616161, 0x61616161, 0x61616161, 0x61616161, 0x61616161};
            ints[k] = asked;
            StackedScript s = new StackedScript();
            s.feed(0x61616161, 0x61616161, 0x61616161, 0x61616161, 0x61616161);
            Check.due("feed", s.feed(ints[0], ints[1], ints[2], ints[3], ints[4]), 40);
            Check.due("text of " + asked, s.text(40), -31);
            Check.due("place of " + asked, s.fault(1), 20 + 4 * k + first);
        }
    }

    // "The first n bytes of THE TAPE (which is empty then) are THE SCRIPT: how many LETTERS have a KIND."
    // "-3: n is below 0, above what there is (THE TAPE stays)" "(THE TEXT stays.)" "An empty text: no KINDS at all."
    private static void promise3Script() {
        Whole.eachUnchanged("script", Start::some, StackedScript::script, -3, LEAST, -2, -1, 21, 22, 400, GREATEST);
        Whole.eachUnchanged("script", Start::full, StackedScript::script, -3, LEAST, -1, 401, GREATEST);
        StackedScript s = Start.some();
        Check.due("none of twenty bytes", s.script(0), 0);
        Check.row("no kinds, one more to undo", s::count, 20, 0, 0, 0, 6);
        Check.row("no fault", s::fault, 0, NONE);
        Check.same("the text stays", Check.textOf(s), Start.SOME);
        Check.due("letters alone", s.clusters(), 20);
        s = Start.full();
        Check.due("all of a full tape", s.script(400), 17);
        Check.row("ten to undo as before", s::count, 60, 17, 1, 0, 10);
        Check.feed(s, "consonants kg;vowels e;");
        Check.due("the first ones alone", s.script(14), 2);
        Check.due("the others are gone", s.count(3), 0);
        Check.due("none of them", s.letter('e' - 'a', 0), 0);
        Check.due("all letters", Check.script(s, "tails abcdefghijklmnopqrstuvwxyz;"), 26);
        Check.due("one letter", Check.script(s, "tails z;"), 1);
        Check.due("none", s.script(0), 0);
    }

    // "-3: ...; a FAULT." (-30 less it; THE TAPE is empty then; nothing else changes)
    private static void promise3ScriptFaults() {
        for (int n = 1; n <= 20; n++) {
            int asked = n;
            Whole.emptied("a word of " + n, Start::some, s -> s.script(asked), -32, 2, 0);
        }
        Whole.emptied("a fault 1", Start::noText, s -> Check.script(s, "virama h;marks a1"), -31, 1, 16);
        Whole.emptied("a fault 2", Start::full, s -> s.script(7), -32, 2, 0);
        Whole.emptied("a fault 3", Start::fresh, s -> Check.script(s, "consonants kk;"), -33, 3, 11);
        Whole.emptied("behind lines that are well", Start::full, s -> s.script(152), -31, 1, 152);
        Whole.emptied("in the last of them", Start::full, s -> s.script(151), -33, 3, 150);
    }

    // "They are THE TEXT, a to z each: n. -3 likewise"
    private static void promise4Text() {
        Whole.eachUnchanged("text", Start::some, StackedScript::text, -3, LEAST, -2, -1, 21, 61, 400, GREATEST);
        Whole.eachUnchanged("text", Start::full, StackedScript::text, -3, LEAST, -1, 401, GREATEST);
        StackedScript s = Start.some();
        Check.due("none of twenty bytes", s.text(0), 0);
        Check.row("no letters, one more to undo", s::count, 0, 17, 1, 0, 6, 0, 0, 0);
        Check.row("no fault", s::fault, 0, NONE);
        Check.feed(s, "az");
        Check.due("two of them", s.text(2), 2);
        Check.same("a and z", Check.textOf(s), "az");
        Check.due("the others are gone", s.count(3), 0);
        s = Start.some();
        Check.due("all twenty", s.text(20), 20);
        Check.same("they", Check.textOf(s), Start.TAPE);
    }

    // "-31: a byte that can't stand there (its place is told by fault())"
    private static void promise4TextBytes() {
        for (int b = 0; b < 256; b++) {
            boolean isLetter = b >= 'a' && b <= 'z';
            StackedScript s = new StackedScript();
            s.feed(0x61610000 | b << 8 | 0x61, 0, 0, 0, 0);
            Check.due("a text with byte " + b, s.text(4), isLetter ? 4 : -31);
            Check.due("the letter", s.at(2), isLetter ? b - 'a' : NONE);
            Check.due("the place of byte " + b, s.fault(1), isLetter ? NONE : 2);
        }
        Whole.emptied("the first byte", Start.taped(Start::some, "1bcde"), s -> s.text(5), -31, 1, 0);
        Whole.emptied("the last byte", Start.taped(Start::some, "abcd1"), s -> s.text(5), -31, 1, 4);
        Whole.emptied("the first of two", Start.taped(Start::full, "ab;d e"), s -> s.text(6), -31, 1, 2);
        Whole.emptied("the sixtieth", Start.taped(Start::full, Check.times("a", 59) + "A"), s -> s.text(60), -31, 1, 59);
        StackedScript s = Start.taped(Start::some, "abcd1").get();
        Check.due("the byte behind them isn't asked", s.text(4), 4);
        Check.row("no fault", s::fault, 0, NONE);
    }

    // "-4: there are more than 60 (THE TAPE is empty then, fault() tells 0 and NONE from then on; asked ahead of bytes)"
    private static void promise4TextTooMany() {
        String sixty = Check.times("kh", 30);
        Check.due("sixty", Start.taped(Start::some, sixty).get().text(60), 60);
        Whole.emptied("sixty-one", Start.taped(Start::some, sixty + "a"), s -> s.text(61), -4, 0, NONE);
        Whole.emptied("four hundred", Start::full, s -> s.text(400), -4, 0, NONE);
        Whole.emptied("ahead of bytes", Start.taped(Start::some, "1" + sixty), s -> s.text(61), -4, 0, NONE);
        Whole.unchanged("-3 ahead of -4", Start.taped(Start::some, sixty + "a"), s -> s.text(81), -3);
        Whole.unchanged("-3 ahead of bytes", Start.taped(Start::some, "1"), s -> s.text(21), -3);
        StackedScript s = Start.taped(Start::some, sixty + "a").get();
        Check.due("sixty of more", s.text(60), 60);
        Check.due("the tape is empty", s.count(3), 0);
    }

    // "Of the latest script(), text() that emptied THE TAPE, what 0: its FAULT (0), 1: its place (NONE). NONE for others."
    private static void promise5Fault() {
        for (int what : new int[] {LEAST, -2, -1, 2, 3, GREATEST}) {
            Check.due("fault of none, " + what, new StackedScript().fault(what), NONE);
            Check.due("fault of some, " + what, Start.some().fault(what), NONE);
        }
        Check.row("none yet", Start.fresh()::fault, 0, NONE);
        StackedScript s = Start.some();
        Check.row("2 at its word", s::fault, 2, 9);
        s.find(0, 0);
        Check.script(s, "marks m");
        Check.row("1 at the end", s::fault, 1, 7);
        Check.script(s, "marks mm;");
        Check.row("3 at the row", s::fault, 3, 6);
        Check.text(s, "kk kk");
        Check.row("1 at the byte", s::fault, 1, 2);
        Check.script(s, "marks m;");
        Check.row("a script that is well", s::fault, 0, NONE);
        Check.text(s, "1");
        Check.row("1 at place 0", s::fault, 1, 0);
        Check.text(s, "m");
        Check.row("a text that is well", s::fault, 0, NONE);
        Check.text(s, "1");
        Check.text(s, Check.times("1", 61));
        Check.row("too many", s::fault, 0, NONE);
        Check.text(s, "1");
        s.text(0);
        Check.row("an empty text", s::fault, 0, NONE);
        Check.text(s, "1");
        s.script(0);
        Check.row("an empty script", s::fault, 0, NONE);
    }

    private static void promise5FaultStays() {
        StackedScript s = Start.some();
        Check.due("a refused script", s.script(21), -3);
        Check.due("a refused text", s.text(-1), -3);
        Check.due("another refused text", s.text(61), -3);
        Check.row("they emptied no tape", s::fault, 2, 9);
        Check.due("find isn't one of these", s.find(2, 0), NONE);
        Check.due("but empties the tape", s.count(3), 0);
        Check.row("it tells no fault", s::fault, 2, 9);
        s.feed(0, 0, 0, 0, 0);
        s.insert(0, 0);
        s.order();
        s.mended();
        s.erase();
        Check.row("nor do these", s::fault, 2, 9);
        s.undo(9);
        s.restore(1);
        Check.row("it isn't undone, nor in an image", s::fault, 2, 9);
    }

    // "A LETTER comes in at a place (0 to how many there are): how many there are then. -3: the LETTER; -5: the place"
    private static void promise6Insert() {
        for (int at = 0; at <= 20; at++) {
            StackedScript s = Start.some();
            Check.due("insert at " + at, s.insert(at, 'w' - 'a'), 21);
            Check.same("insert at " + at, Check.textOf(s), Start.SOME.substring(0, at) + "w" + Start.SOME.substring(at));
        }
        StackedScript parted = Check.told("ks");
        parted.insert(1, 'h' - 'a');
        Check.due("clusters anew", parted.clusters(), 1);
        Check.due("a", Start.noText().insert(0, 0), 1);
        Check.due("z", Start.noText().insert(0, 25), 1);
        Whole.eachUnchanged("insert", Start::some, (s, letter) -> s.insert(0, letter), -3, NO_LETTERS);
        Whole.eachUnchanged("insert at", Start::some, (s, at) -> s.insert(at, 0), -5, LEAST, -2, -1, 21, 22, GREATEST);
        Whole.eachUnchanged("insert in none at", Start::noText, (s, at) -> s.insert(at, 0), -5, LEAST, -1, 1, GREATEST);
        Whole.unchanged("-3 ahead of -5", Start::some, s -> s.insert(-1, 26), -3);
        Whole.unchanged("-3 ahead of -5", Start::some, s -> s.insert(21, -1), -3);
    }

    // "-4." (60 at most)
    private static void promise6InsertFull() {
        Whole.eachUnchanged("insert in sixty at", Start::full, (s, at) -> s.insert(at, 10), -4, 0, 1, 59, 60);
        Whole.eachUnchanged("-5 ahead of -4 at", Start::full, (s, at) -> s.insert(at, 10), -5, LEAST, -1, 61, GREATEST);
        Whole.eachUnchanged("-3 ahead of -4", Start::full, (s, letter) -> s.insert(0, letter), -3, NO_LETTERS);
        Whole.unchanged("-3 ahead of both", Start::full, s -> s.insert(61, 26), -3);
        for (int at : new int[] {0, 30, 59}) {
            StackedScript s = Check.told(Check.times("k", 59));
            Check.due("the sixtieth at " + at, s.insert(at, 4), 60);
            Check.due("it is there", s.at(at), 4);
        }
    }

    // "The LETTER ahead of a place goes: it. -5: there is none."
    private static void promise7Backspace() {
        for (int at = 1; at <= 20; at++) {
            StackedScript s = Start.some();
            Check.due("backspace at " + at, s.backspace(at), Start.SOME.charAt(at - 1) - 'a');
            Check.same("backspace at " + at, Check.textOf(s), Start.SOME.substring(0, at - 1) + Start.SOME.substring(at));
        }
        StackedScript joined = Check.told("khs");
        joined.backspace(2);
        Check.due("clusters anew", joined.clusters(), 2);
        Whole.eachUnchanged("backspace", Start::some, StackedScript::backspace, -5, LEAST, -1, 0, 21, 22, GREATEST);
        Whole.eachUnchanged("backspace in none", Start::noText, StackedScript::backspace, -5, LEAST, -1, 0, 1, GREATEST);
        Whole.eachUnchanged("backspace in sixty", Start::full, StackedScript::backspace, -5, -1, 0, 61);
        Check.due("the sixtieth", Start.full().backspace(60), 'o' - 'a');
        Check.due("the first of sixty", Start.full().backspace(1), 'k' - 'a');
    }

    // "The cluster behind a STOP goes: how many LETTERS it had. -5: it is no STOP, there is none."
    private static void promise8Delete() {
        int stop = 0;
        for (int at = 0; at < 20; at++) {
            if (Start.STOPS[stop] != at) {
                int asked = at;
                Whole.unchanged("delete at no stop " + at, Start::some, s -> s.delete(asked), -5);
                continue;
            }
            int end = Start.STOPS[stop + 1];
            StackedScript s = Start.some();
            Check.due("delete at " + at, s.delete(at), end - at);
            Check.same("delete at " + at, Check.textOf(s), Start.SOME.substring(0, at) + Start.SOME.substring(end));
            Check.due("clusters anew, deleted at " + at, s.clusters(), 7);
            Check.due("width anew, deleted at " + at, s.count(5), 33 - Start.XS[stop + 1] + Start.XS[stop]);
            stop++;
        }
        Whole.eachUnchanged("delete", Start::some, StackedScript::delete, -5, LEAST, -1, 20, 21, GREATEST);
        Whole.eachUnchanged("delete in none", Start::noText, StackedScript::delete, -5, LEAST, -1, 0, 1, GREATEST);
        Whole.eachUnchanged("delete in sixty", Start::full, StackedScript::delete, -5, -1, 1, 59, 60, 61);
        Check.due("one cluster of sixty", Check.told(Check.times("kh", 29) + "km").delete(0), 60);
    }

    // "All LETTERS go: how many there were."
    private static void promise9Erase() {
        StackedScript s = Start.full();
        Check.due("sixty", s.erase(), 60);
        Check.row("none", s::count, 0, 17, 1, 400, 10, 0, 0, 0);
        Check.due("none to go", s.erase(), 0);
        Check.due("none left", s.at(0), NONE);
        Check.due("no clusters left", s.clusters(), 0);
        Check.due("no glyphs left", s.glyphs(), 0);
        Check.due("nothing to read back", s.back(NONE), 0);
        Check.due("both undone", s.undo(2), 8);
        Check.due("sixty again", s.count(0), 60);
    }

    // "All clusters are what is READ BACK of them: how many LETTERS there are then. -4: more than 60."
    private static void promise10Order() {
        Whole.unchanged("fifteen too many", Start::full, StackedScript::order, -4);
        StackedScript s = Check.told(Check.times("o", 30));
        Check.due("just sixty", s.order(), 60);
        Check.due("a cluster", s.clusters(), 1);
        Check.due("what is shown stays", s.glyphs(), 61);
        Check.due("its end anew", s.stop(1), 60);
        Check.due("a part's place anew", s.glyph(60, 3), 59);
        Check.due("what is read back, too", s.back(NONE), 60);
        Whole.unchanged("sixty-one", () -> Check.told(Check.times("o", 30) + "x"), StackedScript::order, -4);
        Whole.unchanged("sixty-one of sixty", () -> Check.told(Check.times("k", 59) + "o"), StackedScript::order, -4);
        Whole.unchanged("a hundred and twenty", () -> Check.told(Check.times("o", 60)), StackedScript::order, -4);
        Check.due("sixty of fifty-nine", Check.told(Check.times("k", 58) + "o").order(), 60);
        Check.due("sixty of sixty", Check.told(Check.times("ku", 30)).order(), 60);
        Check.due("none", Start.noText().order(), 0);
    }
}
