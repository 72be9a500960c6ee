/** The boundary cases that promises 36 to 40 name, sentence by sentence. */
public final class EdgesOfFoundTest {
    private static final int NONE = StackedScript.NONE;
    private static final int LEAST = Integer.MIN_VALUE;
    private static final int GREATEST = Integer.MAX_VALUE;

    private EdgesOfFoundTest() {
    }

    public static void main(String[] args) {
        promise36FindRefused();
        promise36Find();
        promise36FindNone();
        promise36FindBytes();
        promise37Alike();
        promise37NoSuch();
        promise38Kinds();
        promise39Compare();
        promise39NoSuch();
        promise40Ranked();
        Check.end();
    }

    // "-3: n (THE TAPE stays); -5: the place is below 0, above how many LETTERS there are (THE TAPE stays)."
    private static void promise36FindRefused() {
        int[] wrong = {LEAST, -2, -1, 21, 22, 400, GREATEST};
        Whole.eachUnchanged("find", Start::some, (s, n) -> s.find(n, 0), -3, wrong);
        Whole.eachUnchanged("-3 ahead of -5 below", Start::some, (s, n) -> s.find(n, -1), -3, wrong);
        Whole.eachUnchanged("-3 ahead of -5 above", Start::some, (s, n) -> s.find(n, 21), -3, wrong);
        Whole.eachUnchanged("of a full tape", Start::full, (s, n) -> s.find(n, 0), -3, -1, 401);
        Whole.eachUnchanged("of no tape", Start::noText, (s, n) -> s.find(n, 0), -3, -1, 1);
        int[] places = {LEAST, -2, -1, 21, 22, GREATEST};
        Whole.eachUnchanged("the place", Start::some, (s, at) -> s.find(2, at), -5, places);
        Whole.eachUnchanged("-5 ahead of NONE, n 0", Start::some, (s, at) -> s.find(0, at), -5, places);
        Whole.eachUnchanged("-5 ahead of NONE, other bytes", Start.taped(Start::some, "1"), (s, at) -> s.find(1, at), -5,
            places);
        Whole.eachUnchanged("the place in none", Start::noText, (s, at) -> s.find(0, at), -5, -1, 1);
        Whole.eachUnchanged("the place in sixty", Start::full, (s, at) -> s.find(400, at), -5, -1, 61);
    }

    private static void find(String what, int from, int want) {
        StackedScript s = Start.taped(Start::some, what).get();
        Check.due("find " + what + " from " + from, s.find(what.length(), from), want);
        Check.due("the tape behind find " + what, s.count(3), 0);
        Check.row("the fault behind find " + what, s::fault, 2, 9);
        Check.due("undoable behind find " + what, s.count(4), 5);
        Check.same("the text behind find " + what, Check.textOf(s), Start.SOME);
    }

    // "The first place from one on at which the first n bytes ... stand, it and the place behind them being STOPS."
    private static void promise36Find() {
        for (int i = 0; i + 1 < Start.STOPS.length; i++) {
            int at = Start.STOPS[i];
            String cluster = Start.SOME.substring(at, Start.STOPS[i + 1]);
            find(cluster, 0, at);
            find(cluster, at, at);
            find(cluster, at + 1, NONE);
            find(cluster + "q", 0, NONE);
            if (cluster.length() > 1) {
                find(cluster.substring(1), 0, NONE);
                find(cluster.substring(0, cluster.length() - 1), 0, NONE);
            }
        }
        find(Start.SOME, 0, 0);
        find(Start.SOME, 1, NONE);
        find("eko", 0, 0);
        find("khjb", 0, 16);
        find("khjb", 16, 16);
        find("khjb", 17, NONE);
        find("b", 19, 19);
        find("b", 20, NONE);
        StackedScript two = Check.told("kkikki");
        Check.due("the first of two", Check.find(two, "ki", 0), 1);
        Check.due("the first from it on", Check.find(two, "ki", 1), 1);
        Check.due("the second", Check.find(two, "ki", 2), 4);
        Check.due("the second from it on", Check.find(two, "ki", 4), 4);
        Check.due("none behind", Check.find(two, "ki", 5), NONE);
        Check.due("k alone", Check.find(two, "k", 0), 0);
        Check.due("k alone behind", Check.find(two, "k", 1), 3);
        StackedScript sixty = Check.told(Check.times("k", 60));
        Check.due("sixty", Check.find(sixty, Check.times("k", 60), 0), 0);
        Check.due("the last of sixty", Check.find(sixty, "k", 59), 59);
        Check.due("behind sixty", Check.find(sixty, "k", 60), NONE);
        Check.due("sixty from 1 on", Check.find(sixty, Check.times("k", 60), 1), NONE);
        Check.due("sixty-one", Check.find(sixty, Check.times("k", 61), 0), NONE);
        Check.due("four hundred", Check.find(sixty, Check.times("k", 400), 0), NONE);
    }

    // "NONE: there is none (n 0, other bytes, too)"
    private static void promise36FindNone() {
        find("", 0, NONE);
        find("", 20, NONE);
        find("ks", 0, NONE);
        find("k1", 0, NONE);
        find(" e", 0, NONE);
        find("e ", 0, NONE);
        find("E", 0, NONE);
        StackedScript s = Start.some();
        Check.due("n 0 of twenty bytes", s.find(0, 0), NONE);
        Check.due("the tape is empty then", s.count(3), 0);
        s = Start.taped(Start::some, "e1").get();
        Check.due("the bytes behind n aren't asked", s.find(1, 0), 0);
        Check.due("in none", Check.find(Start.fresh(), "k", 0), NONE);
        Check.due("none in none", Start.fresh().find(0, 0), NONE);
    }

    private static void promise36FindBytes() {
        for (int b = 0; b < 256; b++) {
            StackedScript s = Check.told("", "akz");
            s.feed(b << 24, 0, 0, 0, 0);
            Check.due("find byte " + b, s.find(1, 0), b == 'a' ? 0 : b == 'k' ? 1 : b == 'z' ? 2 : NONE);
        }
    }

    // "1 if two clusters are ALIKE, else 0."
    private static void promise37Alike() {
        StackedScript s = Start.some();
        for (int i = 0; i < 8; i++) {
            for (int j = 0; j < 8; j++) {
                Check.due("alike " + i + " " + j, s.alike(i, j), i == j ? 1 : 0);
            }
        }
        alike("kokia", 1);
        alike("kokai", 1);
        alike("kiko", 0);
        alike("kka", 0);
        alike("kak", 0);
        alike("hh", 1);
        alike("hn", 0);
        alike("xj", 0);
        alike("kmzkzm", 1);
        alike("kmkz", 0);
        alike("ee", 1);
        alike("een", 0);
        alike("kk", 1);
    }

    private static void alike(String text, int want) {
        StackedScript s = Check.told(text);
        Check.due("clusters of " + text, s.clusters(), 2);
        Check.due("alike of " + text, s.alike(0, 1), want);
        Check.due("alike the other way of " + text, s.alike(1, 0), want);
        Check.due("kinds of " + text, s.kinds(), 2 - want);
        Check.due("compare of " + text, s.compare(0, 1) == 0 ? 1 : 0, want);
    }

    // "-2."
    private static void promise37NoSuch() {
        int[] none = {LEAST, -2, -1, 8, 9, 60, GREATEST};
        Whole.eachUnchanged("alike i", Start::some, (s, i) -> s.alike(i, 0), -2, none);
        Whole.eachUnchanged("alike j", Start::some, (s, j) -> s.alike(7, j), -2, none);
        Whole.eachUnchanged("alike both", Start::some, (s, i) -> s.alike(i, i), -2, none);
        Whole.eachUnchanged("alike of none", Start::noText, (s, i) -> s.alike(i, i), -2, -1, 0, 1);
        Check.due("the last of sixty", Check.told(Check.times("x", 60)).alike(0, 59), 1);
        Check.due("behind it", Check.told(Check.times("x", 60)).alike(0, 60), -2);
    }

    // "How many unlike clusters there are."
    private static void promise38Kinds() {
        Check.due("none", Start.fresh().kinds(), 0);
        Check.due("none in no text", Start.noText().kinds(), 0);
        Whole.unchanged("some", Start::some, StackedScript::kinds, 8);
        Check.due("one of fifteen", Start.full().kinds(), 1);
        Check.due("one of sixty", Check.told(Check.times("x", 60)).kinds(), 1);
        Check.due("three of sixty", Check.told(Check.times("xxkxek", 10)).kinds(), 3);
        StackedScript all = Check.told("", "abcdefghijklmnopqrstuvwxyzabcdefghijklmnopqrstuvwxyz");
        Check.due("all letters, twice", all.kinds(), 26);
    }

    private static void ahead(String script, String text, int want) {
        StackedScript s = Check.told(script, text);
        Check.due("clusters of " + text, s.clusters(), 2);
        Check.due("compare of " + text, s.compare(0, 1), want);
        Check.due("the other way of " + text, s.compare(1, 0), want == 0 ? 0 : 3 - want);
        Check.due("itself of " + text, s.compare(1, 1), 0);
        Check.due("ranked first of " + text, s.ranked(0), want == 2 ? 1 : 0);
        Check.due("ranked second of " + text, s.ranked(1), want == 2 ? 0 : 1);
    }

    // "by the first GLYPH of rank 2, then by all GLYPHS in order; ... by the first LETTER (CIRCLE behind all), then the
    // FORM, then the second LETTER (none ahead of any); one that is over ahead of one that goes on."
    private static void promise39Compare() {
        String more = "consonants abkgsz;vowels e;virama h;nukta n;before i;above u;below d;marks m;tails t;"
            + "joins ks;joins kg;joins ka;joiner j;breaker r;half k;";
        ahead(more, "kk", 0);
        ahead(more, "gk", 1);
        ahead(more, "kg", 2);
        // The base alone, whatever stands ahead of it.
        ahead(more, "zhgbhk", 1);
        ahead(more, "bhkzhg", 2);
        ahead(more, "zhkbhk", 2);
        // A circle behind z.
        ahead(more, "xh", 1);
        ahead(more, "hz", 2);
        ahead(more, "hn", 1);
        ahead(more, "tu", 1);
        // By the form: k whole (0) ahead of k joined (2), by the second letter.
        ahead(more, "kkhs", 1);
        ahead(more, "khsk", 2);
        ahead(more, "khgkhs", 1);
        ahead(more, "khakhg", 1);
        // The form is told ahead of what stands behind.
        ahead(more, "khjkkhrk", 2);
        ahead(Check.SCRIPT, "khgkhbg", 2);
        ahead("consonants kgsp;virama h;half g;joins ks;joins kg;", "khghpkhshp", 2);
        // One that is over.
        ahead(more, "kkm", 1);
        ahead(more, "kmk", 2);
        ahead(more, "kukum", 1);
        ahead(more, "eem", 1);
        // The base is alike: then all glyphs, the sign ahead first.
        ahead(more, "kik", 1);
        ahead(more, "kmki", 2);
        ahead(more, "kukd", 2);
        // "none ahead of any": the first letter alone tells: a letter without form 2 can't have a second one.
        ahead("", "az", 1);
        ahead("", "za", 2);
    }

    // "-2."
    private static void promise39NoSuch() {
        int[] none = {LEAST, -2, -1, 8, 9, 60, GREATEST};
        Whole.eachUnchanged("compare i", Start::some, (s, i) -> s.compare(i, 0), -2, none);
        Whole.eachUnchanged("compare j", Start::some, (s, j) -> s.compare(7, j), -2, none);
        Whole.eachUnchanged("compare both", Start::some, (s, i) -> s.compare(i, i), -2, none);
        Whole.eachUnchanged("compare of none", Start::noText, (s, i) -> s.compare(i, i), -2, -1, 0, 1);
        Check.due("the last of sixty", Check.told(Check.times("x", 60)).compare(59, 0), 0);
        Check.due("behind it", Check.told(Check.times("x", 60)).compare(60, 0), -2);
    }

    // "The cluster that is i-th by ORDER (of like ones the earlier one ahead). NONE: not so many; -3: i is below 0."
    private static void promise40Ranked() {
        Whole.eachUnchanged("ranked", Start::some, StackedScript::ranked, -3, LEAST, -2, -1);
        Whole.eachUnchanged("ranked", Start::some, StackedScript::ranked, NONE, 8, 9, 60, GREATEST);
        Whole.eachUnchanged("ranked of none", Start::noText, StackedScript::ranked, NONE, 0, 1, GREATEST);
        // b, e, ko (i first), rhkhtu and khj (k, then 3.t, 4.h: h first), khsim (i first, but joined), x, the circle.
        Check.row("some", Start.some()::ranked, 7, 0, 1, 6, 5, 2, 4, 3, NONE);
        StackedScript like = Check.told("kgkgk");
        Check.row("of like ones the earlier", like::ranked, 1, 3, 0, 2, 4, NONE);
        StackedScript sixty = Check.told(Check.times("xk", 30));
        for (int i = 0; i < 30; i++) {
            Check.due("of sixty", sixty.ranked(i), 2 * i + 1);
            Check.due("of sixty", sixty.ranked(30 + i), 2 * i);
        }
        Check.due("behind sixty", sixty.ranked(60), NONE);
    }
}
