/** Promises 11 to 20: letters, clusters. */
public final class LettersTest {
    private static final int NONE = StackedScript.NONE;

    private LettersTest() {
    }

    public static void main(String[] args) {
        letters();
        joining();
        places();
        howMany();
        cutting();
        facts();
        bases();
        pairs();
        owners();
        broken();
        mending();
        mayComeIn();
        mended();
        Check.end();
    }

    private static void letter(StackedScript s, char letter, int... want) {
        Check.row("letter " + letter, what -> s.letter(letter - 'a', what), want);
    }

    private static void letters() {
        StackedScript s = Check.told(Check.SCRIPT, "");
        letter(s, 'k', 1, 0, 0, 1, NONE, NONE, -2);
        letter(s, 'r', 1, 1, 0, 0, NONE, NONE, -2);
        letter(s, 't', 1, 0, 1, 0, NONE, NONE, -2);
        letter(s, 'g', 1, 0, 0, 1, NONE, NONE, -2);
        letter(s, 's', 1, 0, 0, 0, NONE, NONE, -2);
        letter(s, 'o', 9, 0, 0, 0, 'i' - 'a', 0, -2);
        letter(s, 'i', 5, 0, 0, 0, NONE, NONE, -2);
        letter(s, 'a', 8, 0, 0, 0, NONE, NONE, -2);
        letter(s, 'x', 0, 0, 0, 0, NONE, NONE, -2);
        Check.due("below a", s.letter(-1, 0), -2);
        Check.due("above z", s.letter(26, 0), -2);
        Check.due("below what", s.letter(0, -1), -2);
        Check.due("both", s.letter(26, 6), -2);
        Check.script(s, "consonants r;ra r;half r;stack r;");
        letter(s, 'r', 1, 1, 1, 1, NONE, NONE);
    }

    private static void joining() {
        StackedScript s = Check.told("consonants kg;joins kg;joins kk;", "");
        Check.due("kg", s.joins(10, 6), 1);
        Check.due("gk", s.joins(6, 10), 0);
        Check.due("kk", s.joins(10, 10), 1);
        Check.due("gg", s.joins(6, 6), 0);
        Check.due("no kinds", s.joins(25, 0), 0);
        Check.due("a above", s.joins(26, 0), -2);
        Check.due("b above", s.joins(0, 26), -2);
        Check.due("a below", s.joins(-1, 0), -2);
        Check.due("b below", s.joins(0, -1), -2);
    }

    private static void places() {
        StackedScript s = Check.told("kz");
        Check.row("at", s::at, 10, 25, NONE, NONE);
        Check.due("below", s.at(-1), -3);
        Check.due("far", s.at(Integer.MAX_VALUE), NONE);
        Check.due("least", s.at(Integer.MIN_VALUE), -3);
    }

    private static void howMany() {
        Check.due("none", Check.told("").clusters(), 0);
        Check.due("one", Check.told("khshtnimz").clusters(), 1);
        Check.due("sixty", Check.told(Check.times("k", 60)).clusters(), 60);
        Check.due("no script", Check.told("", "khs").clusters(), 3);
    }

    /** Clusters as their sorts and lengths. */
    private static void cut(String text, String want) {
        StackedScript s = Check.told(text);
        StringBuilder got = new StringBuilder();
        int begin = 0;
        for (int i = 0; i < s.clusters(); i++) {
            got.append(i == 0 ? "" : " ").append("cvbo".charAt(s.cluster(i, 2))).append(s.cluster(i, 1));
            got.append(s.cluster(i, 3) == 1 ? "d" : "");
            Check.due("begin of cluster " + i + " of " + text, s.cluster(i, 0), begin);
            begin += s.cluster(i, 1);
        }
        Check.same("clusters of " + text, got.toString(), want);
    }

    private static void cutting() {
        cut("k", "c1");
        cut("kn", "c2");
        cut("knn", "c2 b1");
        cut("kh", "c2d");
        cut("knh", "c3d");
        cut("khj", "c3d");
        cut("khb", "c3d");
        cut("khjb", "c3d o1");
        cut("khh", "c2d b1d");
        cut("khn", "c2d b1");
        cut("khi", "c2d b1");
        cut("khji", "c3d b1");
        cut("khmz", "c4d");
        cut("khjzm", "c5d");
        cut("khmi", "c3d b1");
        cut("khe", "c2d v1");
        cut("khx", "c2d o1");
        cut("khs", "c3");
        cut("khjs", "c4");
        cut("khbs", "c4");
        cut("khjjs", "c3d o1 c1");
        cut("khns", "c2d b1 c1");
        cut("knhsnhtni", "c9");
        cut("khshtnimz", "c9");
        cut("ks", "c1 c1");
        cut("kj", "c1 o1");
        cut("kjs", "c1 o1 c1");
        cut("kiudaomzmz", "c10");
        cut("kih", "c2 b1d");
        cut("kin", "c2 b1");
        cut("kmi", "c2 b1");
        cut("kmh", "c2 b1d");
        cut("kzmzm", "c5");
        cut("e", "v1");
        cut("en", "v2");
        cut("enn", "v2 b1");
        cut("enmz", "v4");
        cut("emn", "v2 b1");
        cut("ei", "v1 b1");
        cut("eh", "v1 b1d");
        cut("ehs", "v1 b1d c1");
        cut("ee", "v1 v1");
        cut("ej", "v1 o1");
        cut("n", "b1");
        cut("nn", "b1 b1");
        cut("nh", "b2d");
        cut("nhj", "b3d");
        cut("nhjm", "b4d");
        cut("nhs", "b2d c1");
        cut("ni", "b2");
        cut("nim", "b3");
        cut("nm", "b2");
        cut("nmi", "b2 b1");
        cut("nj", "b1 o1");
        cut("h", "b1d");
        cut("hn", "b1d b1");
        cut("hh", "b1d b1d");
        cut("hj", "b2d");
        cut("hb", "b2d");
        cut("hjj", "b2d o1");
        cut("hjs", "b2d c1");
        cut("hjm", "b3d");
        cut("hm", "b2d");
        cut("hi", "b1d b1");
        cut("hs", "b1d c1");
        cut("iudao", "b5");
        cut("io", "b2");
        cut("imz", "b3");
        cut("in", "b1 b1");
        cut("mzm", "b3");
        cut("mi", "b1 b1");
        cut("z", "b1");
        cut("x", "o1");
        cut("xx", "o1 o1");
        cut("xm", "o1 b1");
        cut("xn", "o1 b1");
        cut("jm", "o1 b1");
        cut("bb", "o1 o1");
    }

    private static void facts(String text, int... want) {
        StackedScript s = Check.told(text);
        Check.row("facts of " + text, what -> s.cluster(0, what), want);
        Check.due("below what of " + text, s.cluster(0, -1), -2);
        Check.due("none such of " + text, s.cluster(s.clusters(), 0), -2);
        Check.due("none below of " + text, s.cluster(-1, 0), -2);
    }

    private static void facts() {
        // begin, length, sort, dead, chain, base, reph, stacked, joined, glyphs, wide
        facts("rhkhto", 0, 6, 0, 0, 3, 2, 1, 1, 0, 5, 8, -2);
        facts("khsi", 0, 4, 0, 0, 2, 2, 0, 0, 1, 2, 7, -2);
        facts("kh", 0, 2, 0, 1, 1, 0, 0, 0, 0, 2, 4, -2);
        facts("enz", 0, 3, 1, 0, 0, 0, 0, 0, 0, 3, 5, -2);
        facts("x", 0, 1, 3, 0, 0, 0, 0, 0, 0, 1, 3, -2);
        facts("j", 0, 1, 3, 0, 0, 0, 0, 0, 0, 1, 0, -2);
        facts("nhj", 0, 3, 2, 1, 0, NONE, 0, 0, 0, 4, 3, -2);
        facts("oz", 0, 2, 2, 0, 0, NONE, 0, 0, 0, 4, 8, -2);
        facts("ghgnhtnht", 0, 9, 0, 0, 4, 2, 0, 2, 0, 6, 6);
        StackedScript s = Check.told("ekxh");
        Check.due("base of the second", s.cluster(1, 5), 1);
        Check.due("a letter alone", s.cluster(2, 5), 2);
        Check.due("a broken one", s.cluster(3, 5), NONE);
        Check.due("far", s.cluster(Integer.MAX_VALUE, 0), -2);
        Check.due("far what", s.cluster(0, Integer.MAX_VALUE), -2);
        Check.due("least what", s.cluster(0, Integer.MIN_VALUE), -2);
    }

    /** The place of base, reph, how many are stacked. */
    private static void base(String script, String text, int base, int reph, int stacked) {
        StackedScript s = Check.told(script, text);
        Check.due("base of " + text, s.cluster(0, 5), base);
        Check.due("reph of " + text, s.cluster(0, 6), reph);
        Check.due("stacked of " + text, s.cluster(0, 7), stacked);
    }

    private static void bases() {
        base(Check.SCRIPT, "khs", 2, 0, 0);
        base(Check.SCRIPT, "kht", 0, 0, 1);
        base(Check.SCRIPT, "khtht", 0, 0, 2);
        base(Check.SCRIPT, "khthk", 4, 0, 0);
        base(Check.SCRIPT, "thtk", 0, 0, 1);
        base(Check.SCRIPT, "ththt", 0, 0, 2);
        base(Check.SCRIPT, "khjt", 3, 0, 0);
        base(Check.SCRIPT, "khbt", 3, 0, 0);
        base(Check.SCRIPT, "khjtht", 3, 0, 1);
        base(Check.SCRIPT, "khthjt", 5, 0, 0);
        base(Check.SCRIPT, "rhk", 2, 1, 0);
        base(Check.SCRIPT, "rht", 2, 1, 0);
        base(Check.SCRIPT, "rhtht", 2, 1, 1);
        base(Check.SCRIPT, "rhthk", 4, 1, 0);
        base(Check.SCRIPT, "rnhk", 3, 0, 0);
        base(Check.SCRIPT, "rnht", 0, 0, 1);
        base(Check.SCRIPT, "rhjk", 3, 0, 0);
        base(Check.SCRIPT, "rhbk", 3, 0, 0);
        base(Check.SCRIPT, "rhjt", 3, 0, 0);
        base(Check.SCRIPT, "rh", 0, 0, 0);
        base(Check.SCRIPT, "r", 0, 0, 0);
        base(Check.SCRIPT, "rhj", 0, 0, 0);
        base(Check.SCRIPT, "khr", 2, 0, 0);
        base(Check.SCRIPT, "rhr", 2, 1, 0);
        base(Check.SCRIPT, "rhknhthjm", 2, 1, 1);
        base("consonants rt;virama h;ra r;stack rt;", "thr", 0, 0, 1);
        base("consonants rt;virama h;ra r;stack rt;", "rhrht", 2, 1, 1);
        base("consonants rt;virama h;stack t;", "rht", 0, 0, 1);
    }

    private static void pair(String script, String text, int pairs) {
        Check.due("pairs of " + text, Check.told(script, text).cluster(0, 8), pairs);
    }

    private static void pairs() {
        pair(Check.SCRIPT, "khs", 1);
        pair(Check.SCRIPT, "shk", 0);
        pair(Check.SCRIPT, "knhs", 0);
        pair(Check.SCRIPT, "khsn", 1);
        pair(Check.SCRIPT, "khjs", 0);
        pair(Check.SCRIPT, "khbs", 0);
        pair(Check.SCRIPT, "khshkhs", 2);
        pair(Check.SCRIPT, "khsht", 1);
        pair(Check.SCRIPT, "rhkhs", 1);
        String all = "consonants ktr;virama h;ra r;stack t;joins kk;joins kt;joins rk;";
        pair(all, "khk", 1);
        pair(all, "khkhk", 1);
        pair(all, "khkhkhk", 2);
        pair(all, "kht", 0);
        pair(all, "khthk", 1);
        pair(all, "rhk", 0);
        pair(all, "rhkhk", 1);
        pair(all, "khrhk", 1);
    }

    private static void owners() {
        StackedScript s = Check.told("ekhsiz");
        Check.row("of", s::of, 0, 1, 1, 1, 1, 1, NONE, NONE);
        Check.due("below", s.of(-1), -3);
        Check.due("far", s.of(Integer.MAX_VALUE), NONE);
        Check.due("none", Check.told("").of(0), NONE);
    }

    private static void broken() {
        StackedScript s = Check.told("kinxmkkhi");
        // ki, n, x, m, k, kh, i
        Check.due("clusters", s.clusters(), 7);
        Check.due("broken", s.broken(NONE), 3);
        Check.row("broken", s::broken, 1, 3, 6, NONE, NONE);
        Check.due("below", s.broken(-2), -3);
        Check.due("far", s.broken(Integer.MAX_VALUE), NONE);
        Check.due("none", Check.told("kek").broken(NONE), 0);
        Check.due("none at all", Check.told("kek").broken(0), NONE);
    }

    private static void mend(String text, int... out) {
        StackedScript s = Check.told(text);
        Check.due("mend " + text, s.mend(NONE), out.length);
        Check.row("mend " + text, s::mend, out);
        Check.due("mend behind the last of " + text, s.mend(out.length), NONE);
        Check.due("nothing changes by asking", s.count(0), text.length());
    }

    private static void mending() {
        mend("");
        mend("khsizm");
        mend("ik", 0);
        mend("kih", 1);
        mend("khi", 1);
        mend("kmi", 1);
        mend("kmih", 1, 2);
        mend("knn", 1);
        mend("khh", 1);
        mend("khhs", 1);
        mend("kiih", 3);
        mend("kmzi", 3);
        mend("ei", 1);
        mend("enn", 1);
        mend("emn", 1);
        mend("hnim", 0, 1, 2, 3);
        mend("xi", 1);
        mend("kxi", 1);
        mend("kxinh", 1, 2);
        mend("kei", 1);
        mend("kin", 1);
        mend("kmhs", 1);
        mend("khin", 1, 2);
        mend("kinm", 1);
        mend("kjih", 1, 2);
        StackedScript s = Check.told("ik");
        Check.due("below", s.mend(-2), -3);
        Check.due("far", s.mend(Integer.MAX_VALUE), NONE);
        Check.due("all of sixty", Check.told(Check.times("h", 60)).mend(NONE), 60);
        Check.due("the last of sixty", Check.told(Check.times("h", 60)).mend(59), 59);
    }

    private static void mayComeIn() {
        StackedScript s = Check.told("kih");
        // Ahead of k: consonants, vowels, none, joiner, breaker.
        Check.same("ahead", Check.lettersOf(s.may(0)), "bcefgjklpqrstvwxy");
        // Between k and its sign: no mark breaks no more; a virama makes the sign broken, ...
        Check.same("behind k", Check.lettersOf(s.may(1)), "adgiknorstu");
        // h is broken: behind a consonant it isn't.
        Check.same("ahead of h", Check.lettersOf(s.may(2)), "abcdefgijklmnopqrstuvwxyz");
        Check.same("behind h", Check.lettersOf(s.may(3)), "bcefgjklmpqrstvwxyz");
        Check.due("above", s.may(4), -5);
        Check.due("below", s.may(-1), -5);
        Check.due("far", s.may(Integer.MAX_VALUE), -5);
        Check.same("an empty text", Check.lettersOf(Check.told("").may(0)), "bcefgjklpqrstvwxy");
        Check.due("no script", new StackedScript().may(0), (1 << 26) - 1);
        Check.same("sixty", Check.lettersOf(Check.told(Check.times("k", 60)).may(60)), "abcdefghijklmnopqrstuvwxyz");
        Check.same("sixty, ahead", Check.lettersOf(Check.told(Check.times("k", 60)).may(0)), "bcefgjklpqrstvwxy");
    }

    private static void mended() {
        StackedScript s = Check.told("ikihxm");
        Check.due("mended", s.mended(), 3);
        Check.same("left", Check.textOf(s), "khm");
        Check.due("none is broken", s.broken(NONE), 0);
        Check.due("again", s.mended(), 3);
        Check.due("undone", s.undo(2), 2);
        Check.same("as it was", Check.textOf(s), "ikihxm");
        s.erase();
        Check.due("an empty text", s.mended(), 0);
        Check.due("counted all the same", s.count(4), 4);
    }
}
