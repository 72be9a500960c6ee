/** The boundary cases that promises 21 to 25 name, sentence by sentence. */
public final class EdgesOfGlyphsTest {
    private static final int NONE = StackedScript.NONE;
    private static final int LEAST = Integer.MIN_VALUE;
    private static final int GREATEST = Integer.MAX_VALUE;

    private EdgesOfGlyphsTest() {
    }

    public static void main(String[] args) {
        promise21Glyphs();
        promise22Glyph();
        promise22Facts();
        promise22Neighbours();
        promise22None();
        promise23Shown();
        promise23ShownBy();
        promise24Back();
        promise24AsItIs();
        promise25IsOrdered();
        halves();
        wide();
        Check.end();
    }

    // "How many GLYPHS there are in all."
    private static void promise21Glyphs() {
        Check.due("none", Start.fresh().glyphs(), 0);
        Check.due("none in no text", Start.noText().glyphs(), 0);
        Whole.unchanged("some", Start::some, StackedScript::glyphs, 18);
        Check.due("of sixty letters", Start.full().glyphs(), 45);
        Check.due("the fewest of sixty", Check.told(Check.times("th", 29) + "tm").glyphs(), 31);
        Check.due("a circle each", Check.told(Check.times("h", 60)).glyphs(), 120);
        Check.due("a circle and two parts each", Check.told(Check.times("oh", 30)).glyphs(), 150);
        Check.due("one circle, parts", Check.told(Check.times("o", 60)).glyphs(), 121);
        StackedScript s = Start.full();
        s.erase();
        Check.due("gone", s.glyphs(), 0);
    }

    // "-2: there is none such, what."
    private static void promise22Glyph() {
        for (int what : new int[] {0, 1, 2, 3, 6, 7}) {
            Whole.eachUnchanged("glyph, what " + what, Start::some, (s, k) -> s.glyph(k, what), -2, LEAST, -2, -1, 18, 19,
                GREATEST);
        }
        Whole.eachUnchanged("its what", Start::some, (s, what) -> s.glyph(0, what), -2, LEAST, -2, -1, 7, 8, GREATEST);
        Whole.eachUnchanged("of none", Start::noText, (s, k) -> s.glyph(k, 0), -2, -1, 0, 1);
        Whole.eachUnchanged("of sixty letters", Start::full, (s, k) -> s.glyph(k, 4), -2, -1, 45, 46);
        Check.row("the last of sixty", what -> Start.full().glyph(44, what), 6, 0, NONE, 59, 14, 8, 2, -2);
        StackedScript most = Check.told(Check.times("oh", 30));
        Check.row("the last of a hundred and fifty", what -> most.glyph(149, what), 8, 'h' - 'a', NONE, 59, 59, 4, 0, -2);
        Check.due("behind it", most.glyph(150, 0), -2);
    }

    private static void promise22Facts() {
        Check.same("some", Check.glyphsOf(Start.some()), "2.13e@0 0.6i@2 2.0k@1 8.6a@2 0.6i@6 2.2ks@3 7.7m@7 2.11@-1 4.8h@8 "
            + "2.12x@9 2.0k@12 3.4t@14 5.6u@15 6.5r@10 2.0k@16 4.8h@17 4.10j@18 2.10b@19");
        int[] owners = {0, 1, 1, 1, 2, 2, 2, 3, 3, 4, 5, 5, 5, 5, 6, 6, 6, 7};
        Check.row("owners", k -> Start.some().glyph(k, 4), owners);
        int[] wide = {4, 2, 4, 2, 2, 5, 0, 3, 0, 3, 4, 0, 0, 0, 4, 0, 0, 0};
        Check.row("wide", k -> Start.some().glyph(k, 6), wide);
    }

    // What stands at the edges of clusters is shown once, by its own cluster.
    private static void promise22Neighbours() {
        shown("nene", "2.11@-1 2.9n@0 2.13e@1 2.9n@2 2.13e@3");
        shown("enxk", "2.13e@0 2.9n@1 2.12x@2 2.0k@3");
        shown("nxnx", "2.11@-1 2.9n@0 2.12x@1 2.11@-1 2.9n@2 2.12x@3");
        shown("nhnh", "2.11@-1 2.9n@0 4.8h@1 2.11@-1 2.9n@2 4.8h@3");
        shown("nhbb", "2.11@-1 2.9n@0 4.8h@1 4.10b@2 2.10b@3");
        shown("khjj", "2.0k@0 4.8h@1 4.10j@2 2.10j@3");
        shown("khk", "1.1k@0 2.0k@2");
        shown("khm", "2.0k@0 4.8h@1 7.7m@2");
        shown("hz", "2.11@-1 4.8h@0 9.7z@1");
        shown("khx", "2.0k@0 4.8h@1 2.12x@2");
        shown("kmi", "2.0k@0 7.7m@1 0.6i@2 2.11@-1");
        shown("xm", "2.12x@0 2.11@-1 7.7m@1");
        shown("ei", "2.13e@0 0.6i@1 2.11@-1");
        shown("eh", "2.13e@0 2.11@-1 4.8h@1");
        shown("kzmz", "2.0k@0 7.7m@2 9.7z@1 9.7z@3");
        shown("khtn", "2.0k@0 3.4t@2 3.9n@3");
        shown("khtnhtn", "2.0k@0 3.4t@2 3.9n@3 3.4t@5 3.9n@6");
        shown("khtnkn", "2.0k@0 3.4t@2 3.9n@3 2.0k@4 2.9n@5");
        shown("kkn", "2.0k@0 2.0k@1 2.9n@2");
        shown("kkh", "2.0k@0 2.0k@1 4.8h@2");
        shown("kkhj", "2.0k@0 2.0k@1 4.8h@2 4.10j@3");
    }

    private static void shown(String text, String want) {
        Check.same("glyphs of " + text, Check.glyphsOf(Check.told(text)), want);
    }

    // "2: the second LETTER (NONE)" "(of a PART: of the split one; NONE: CIRCLE)" "(1: NONE for CIRCLE.)"
    private static void promise22None() {
        StackedScript circle = Check.told("h");
        Check.row("circle", what -> circle.glyph(0, what), 11, NONE, NONE, NONE, 0, 2, 3);
        StackedScript parts = Check.told("ko");
        Check.row("the first part", what -> parts.glyph(0, what), 6, 'i' - 'a', NONE, 1, 0, 0, 2);
        Check.row("the base", what -> parts.glyph(1, what), 0, 'k' - 'a', NONE, 0, 0, 2, 4);
        Check.row("the second part", what -> parts.glyph(2, what), 6, 0, NONE, 1, 0, 8, 2);
        StackedScript pair = Check.told("khshk");
        Check.row("joined, whole", what -> pair.glyph(0, what), 2, 'k' - 'a', 's' - 'a', 0, 0, 1, 5);
        Check.row("its v", what -> pair.glyph(1, what), 8, 'h' - 'a', NONE, 3, 0, 1, 0);
        // A glyph without a second letter in the place of one that had it.
        Check.text(pair, "khk");
        Check.row("a half", what -> pair.glyph(0, what), 1, 'k' - 'a', NONE, 0, 0, 1, 2);
        StackedScript a = Check.told("consonants az;virama h;joins az;joins aa;", "ahz");
        Check.row("a and z", what -> a.glyph(0, what), 2, 0, 25, 0, 0, 2, 5);
    }

    // "NONE: there is no such place; -3: it is below 0."
    private static void promise23Shown() {
        Whole.eachUnchanged("shown", Start::some, StackedScript::shown, -3, LEAST, -2, -1);
        Whole.eachUnchanged("shown", Start::some, StackedScript::shown, NONE, 20, 21, 59, 60, 61, GREATEST);
        Whole.eachUnchanged("shown of none", Start::noText, StackedScript::shown, NONE, 0, 1, GREATEST);
        Whole.eachUnchanged("shown of sixty", Start::full, StackedScript::shown, NONE, 60, 61);
        Check.due("the last of sixty", Start.full().shown(59), 42);
        Check.due("the first of sixty", Start.full().shown(0), 1);
        StackedScript s = Start.full();
        s.backspace(60);
        Check.due("a place that is gone", s.shown(59), NONE);
    }

    // "The GLYPH (of all) that shows the LETTER at a place (of a split one its first PART; of a v by what it is shown
    // with)."
    private static void promise23ShownBy() {
        Check.row("some", Start.some()::shown, 0, 2, 1, 5, 5, 5, 4, 6, 8, 9, 13, 13, 10, 11, 11, 12, 14, 15, 16, 17, NONE);
        Check.row("a half", Check.told("khg")::shown, 0, 0, 1);
        Check.row("a half behind another cluster", Check.told("ekhg")::shown, 0, 1, 1, 2);
        String halves = "consonants kgs;virama h;nukta n;vowels e;half s;joins ks;";
        Check.row("a joined half", Check.told(halves, "eekhshg")::shown, 0, 1, 2, 2, 2, 2, 3);
        Check.row("a joined half with a nukta", Check.told(halves, "eekhsnhg")::shown, 0, 1, 2, 2, 2, 3, 2, 4);
        Check.row("a whole", Check.told("shg")::shown, 0, 1, 2);
        Check.row("a breaker", Check.told("khbg")::shown, 0, 1, 2, 3);
        Check.row("a joiner", Check.told("khjg")::shown, 0, 0, 1, 2);
        Check.row("a nukta", Check.told("knhg")::shown, 0, 1, 0, 2);
        Check.row("stacked", Check.told("khtht")::shown, 0, 1, 1, 2, 2);
        Check.row("reph", Check.told("rhgha")::shown, 2, 2, 0, 1, 4);
        Check.row("reph, dead", Check.told("rhgh")::shown, 2, 2, 0, 1);
        Check.row("joined", Check.told("khs")::shown, 0, 0, 0);
        Check.row("joined, with its v", Check.told("khshg")::shown, 0, 0, 0, 1, 2);
        Check.row("dead", Check.told("kh")::shown, 0, 1);
        Check.row("broken", Check.told("hj")::shown, 1, 2);
        // Split ones whose first part stands behind, whose parts are of one rank.
        String more = "consonants k;before i;above u;behind a;splits cai;splits fuu;";
        Check.row("behind first", Check.told(more, "kc")::shown, 1, 2);
        Check.row("alike", Check.told(more, "kf")::shown, 0, 1);
        Check.row("alike, twice", Check.told(more, "kff")::shown, 0, 1, 3);
    }

    // "How many LETTERS are READ BACK (i NONE), else the i-th. NONE: not so many; -3: i is below NONE."
    private static void promise24Back() {
        Whole.eachUnchanged("back", Start::some, StackedScript::back, -3, LEAST, -3, -2);
        Whole.eachUnchanged("back", Start::some, StackedScript::back, NONE, 21, 22, 60, 120, GREATEST);
        Whole.unchanged("how many", Start::some, s -> s.back(NONE), 21);
        Check.same("some", Check.backOf(Start.some()), "ekiakhsimhxrhkhtukhjb");
        Check.due("none", Start.noText().back(NONE), 0);
        Check.row("none of them", Start.noText()::back, NONE, NONE);
        StackedScript full = Start.full();
        Check.due("more than sixty", full.back(NONE), 75);
        Check.due("the last of them", full.back(74), 0);
        Check.due("behind it", full.back(75), NONE);
        StackedScript most = Check.told(Check.times("o", 60));
        Check.due("a hundred and twenty", most.back(NONE), 120);
        Check.row("before ones first", i -> most.back(58 + i), 'i' - 'a', 'i' - 'a', 0, 0);
        Check.due("the last", most.back(119), 0);
        Check.due("behind it", most.back(120), NONE);
    }

    private static void back(String script, String text, String want) {
        Check.same("back of " + text, Check.backOf(Check.told(script, text)), want);
    }

    // "split SIGNS as their PARTS, SIGNS of each cluster in the order of KINDS 5, 6, 7, 8, marks ahead of tails (else as
    // they are)"
    private static void promise24AsItIs() {
        String more = "consonants kg;vowels e;virama h;nukta n;before ip;above u;below d;behind a;splits cai;splits fuu;"
            + "splits lua;marks mq;tails zy;joiner j;";
        back(more, "kaduip", "kipuda");
        back(more, "kpi", "kpi");
        back(more, "kc", "kia");
        back(more, "kf", "kuu");
        back(more, "kl", "kua");
        back(more, "kafi", "kiuua");
        back(more, "kplic", "kpiiuaa");
        back(more, "knhgnzqym", "knhgnqmzy");
        back(more, "khjzm", "khjmz");
        back(more, "enzm", "enmz");
        back(more, "naimz", "niamz");
        back(more, "zmhj", "mzhj");
        back(more, "kaki", "kaki");
        back(more, "kzgm", "kzgm");
        back(more, "xjhz", "xjhz");
        // What the next cluster begins with isn't read with the one ahead.
        for (String text : new String[] {"khi", "khu", "kmi", "xm", "xz", "xi", "eme", "jq", "knn", "ei", "khjp"}) {
            back(more, text, text);
        }
        back(more, "xc", "xia");
        back(more, "khf", "khuu");
    }

    // "1 if THE TEXT is just what is READ BACK, else 0."
    private static void promise25IsOrdered() {
        Check.due("none", Start.fresh().isOrdered(), 1);
        Whole.unchanged("some", Start::some, StackedScript::isOrdered, 0);
        Check.due("sixty", Start.full().isOrdered(), 0);
        Check.due("sixty that are", Check.told(Check.times("kiudamz", 8)).isOrdered(), 1);
        Check.due("the first two change", Check.told("aikk").isOrdered(), 0);
        Check.due("the last two change", Check.told("kkai").isOrdered(), 0);
        Check.due("signs alike", Check.told("kiiuu").isOrdered(), 1);
        Check.due("a split one at the end", Check.told("kko").isOrdered(), 0);
        StackedScript s = Start.some();
        s.order();
        Check.due("ordered", s.isOrdered(), 1);
    }

    private static void drawn(String text, String want) {
        String script = "consonants kgsp;virama h;nukta n;joiner j;breaker b;half ks;joins ks;joins kg;joins pp;";
        Check.same("glyphs of " + text, Check.glyphsOf(Check.told(script, text)), want);
    }

    // "HALF (FORM 1; JOINED: 3), if it (JOINED: the second one) has a HALF and no breaker is behind its v, else WHOLE"
    private static void halves() {
        drawn("khp", "1.1k@0 2.0p@2");
        drawn("khjp", "1.1k@0 1.10j@2 2.0p@3");
        drawn("khbp", "1.0k@0 1.8h@1 1.10b@2 2.0p@3");
        drawn("ghp", "1.0g@0 1.8h@1 2.0p@2");
        drawn("khshp", "1.3ks@0 2.0p@4");
        drawn("khshjp", "1.3ks@0 1.10j@4 2.0p@5");
        drawn("khshbp", "1.2ks@0 1.8h@3 1.10b@4 2.0p@5");
        drawn("khghp", "1.2kg@0 1.8h@3 2.0p@4");
        drawn("khsnhp", "1.3ks@0 1.9n@3 2.0p@5");
        drawn("khbs", "1.0k@0 1.8h@1 1.10b@2 2.0s@3");
        drawn("knhs", "1.1k@0 1.9n@1 2.0s@3");
        drawn("knhbs", "1.0k@0 1.9n@1 1.8h@2 1.10b@3 2.0s@4");
        drawn("phphp", "1.2pp@0 1.8h@3 2.0p@4");
        drawn("kh", "2.0k@0 4.8h@1");
        drawn("khb", "2.0k@0 4.8h@1 4.10b@2");
    }

    // "WIDE by FORM: 0: 4, 1: 2, 2: 5, 3: 3, 11: 3, 12: 3, 13: 4; SIGNS of KINDS 5, 8: 2; tails: 1; others 0."
    private static void wide() {
        String script = "consonants kstr;vowels e;virama h;nukta n;before i;above u;below d;behind a;splits oia;"
            + "marks m;tails z;joiner j;breaker b;half ks;joins ks;ra r;stack t;";
        String text = "khskhskhtkhshkrhkniudaomzhexjb";
        int[] widths = {4, 2, 5, 3, 0, 0, -1, -1, 0, 0, 0, 3, 3, 4};
        StackedScript s = Check.told(script, text);
        for (int k = 0; k < s.glyphs(); k++) {
            int letter = s.glyph(k, 1);
            int kind = letter == NONE ? 0 : s.letter(letter, 0);
            int form = s.glyph(k, 0);
            int want = form == 6 ? (kind == 5 || kind == 8 ? 2 : 0) : form == 7 ? (kind == 11 ? 1 : 0) : widths[form];
            Check.due("how wide glyph " + k + " of form " + form, s.glyph(k, 6), want);
        }
        StackedScript half = Check.told(script, "khshjk");
        Check.row("joined half, joiner, whole", k -> half.glyph(k, 6), 3, 0, 4, -2);
        StackedScript one = Check.told(script, "khk");
        Check.row("half, whole", k -> one.glyph(k, 6), 2, 4, -2);
        StackedScript end = Check.told(script, "kniudaomz");
        Check.row("signs", k -> end.glyph(k, 6), 2, 2, 4, 0, 0, 0, 0, 2, 2, 1, -2);
    }
}
