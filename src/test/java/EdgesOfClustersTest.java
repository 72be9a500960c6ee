/** The boundary cases that promises 11 to 20 name, sentence by sentence. */
public final class EdgesOfClustersTest {
    private static final int NONE = StackedScript.NONE;
    private static final int LEAST = Integer.MIN_VALUE;
    private static final int GREATEST = Integer.MAX_VALUE;
    private static final int[] NO_LETTERS = {LEAST, -2, -1, 26, 27, 97, GREATEST};
    /** Letters that break nothing where they are put in: consonants, vowels, none, joiner, breaker. */
    private static final String HARMLESS = "bcefgjklpqrstvwxy";

    private EdgesOfClustersTest() {
    }

    public static void main(String[] args) {
        promise11Letter();
        promise12Joins();
        promise13At();
        promise14Clusters();
        promise15Cluster();
        promise15Facts();
        promise15None();
        promise16Of();
        promise17Broken();
        promise18Mend();
        promise18MendFewest();
        promise19May();
        promise19MayHoweverMany();
        promise20Mended();
        Check.end();
    }

    // "-2: there is none such, what." "4, 5: its PARTS (NONE: it isn't split)"
    private static void promise11Letter() {
        for (int what : new int[] {0, 1, 2, 3, 4, 5, 6}) {
            Whole.eachUnchanged("letter, what " + what, Start::some, (s, i) -> s.letter(i, what), -2, NO_LETTERS);
        }
        Whole.eachUnchanged("letter's what", Start::some, (s, what) -> s.letter(0, what), -2, LEAST, -1, 6, 7, GREATEST);
        StackedScript s = Start.some();
        Check.row("a", what -> s.letter(0, what), 8, 0, 0, 0, NONE, NONE, -2);
        Check.row("z", what -> s.letter(25, what), 11, 0, 0, 0, NONE, NONE, -2);
        Check.row("o", what -> s.letter('o' - 'a', what), 9, 0, 0, 0, 'i' - 'a', 0, -2);
        Check.row("r", what -> s.letter('r' - 'a', what), 1, 1, 0, 0, NONE, NONE, -2);
        Check.row("t", what -> s.letter('t' - 'a', what), 1, 0, 1, 0, NONE, NONE, -2);
        Check.row("k", what -> s.letter('k' - 'a', what), 1, 0, 0, 1, NONE, NONE, -2);
        StackedScript all = Check.told("consonants abcdefghijklmnopqrstuvwxyz;ra z;stack z;half z;", "");
        Check.row("the last one", what -> all.letter(25, what), 1, 1, 1, 1, NONE, NONE, -2);
        Check.row("the one ahead", what -> all.letter(24, what), 1, 0, 0, 0, NONE, NONE, -2);
    }

    // "1 if two LETTERS JOIN, else 0. -2."
    private static void promise12Joins() {
        Whole.eachUnchanged("joins a", Start::some, (s, a) -> s.joins(a, 10), -2, NO_LETTERS);
        Whole.eachUnchanged("joins b", Start::some, (s, b) -> s.joins(10, b), -2, NO_LETTERS);
        Whole.eachUnchanged("joins both", Start::some, (s, b) -> s.joins(b, b), -2, NO_LETTERS);
        StackedScript s = Start.some();
        for (int letter = 0; letter < 26; letter++) {
            Check.due("k and " + letter, s.joins('k' - 'a', letter), letter == 's' - 'a' ? 1 : 0);
            Check.due("s and " + letter, s.joins('s' - 'a', letter), 0);
        }
        StackedScript all = Check.told("consonants az;joins az;joins zz;", "");
        Check.due("az", all.joins(0, 25), 1);
        Check.due("za", all.joins(25, 0), 0);
        Check.due("zz", all.joins(25, 25), 1);
        Check.due("aa", all.joins(0, 0), 0);
    }

    // "The LETTER at a place. NONE: not so many; -3: it is below 0."
    private static void promise13At() {
        Whole.eachUnchanged("at", Start::some, StackedScript::at, -3, LEAST, -2, -1);
        Whole.eachUnchanged("at", Start::some, StackedScript::at, NONE, 20, 21, 60, GREATEST);
        Whole.eachUnchanged("at of none", Start::noText, StackedScript::at, NONE, 0, 1, GREATEST);
        Whole.eachUnchanged("at of sixty", Start::full, StackedScript::at, NONE, 60, 61, GREATEST);
        Check.due("the first of sixty", Start.full().at(0), 'k' - 'a');
        Check.due("the last of sixty", Start.full().at(59), 'o' - 'a');
        Check.due("the last", Start.some().at(19), 'b' - 'a');
        StackedScript s = Start.full();
        s.erase();
        Check.row("gone", s::at, NONE, NONE);
    }

    // "How many clusters there are."
    private static void promise14Clusters() {
        Check.due("none", Start.fresh().clusters(), 0);
        Check.due("none in no text", Start.noText().clusters(), 0);
        Check.due("some", Start.some().clusters(), 8);
        Check.due("of sixty letters", Start.full().clusters(), 15);
        Check.due("sixty", Check.told(Check.times("x", 60)).clusters(), 60);
        Check.due("one of sixty", Check.told(Check.times("kh", 30)).clusters(), 1);
        Whole.unchanged("clusters", Start::some, StackedScript::clusters, 8);
    }

    // "-2: there is none such, what."
    private static void promise15Cluster() {
        for (int what : new int[] {0, 5, 10, 11}) {
            Whole.eachUnchanged("cluster, what " + what, Start::some, (s, i) -> s.cluster(i, what), -2, LEAST, -2, -1, 8, 9,
                60, GREATEST);
        }
        Whole.eachUnchanged("its what", Start::some, (s, what) -> s.cluster(0, what), -2, LEAST, -2, -1, 11, 12, GREATEST);
        Whole.eachUnchanged("of none", Start::noText, (s, i) -> s.cluster(i, 0), -2, -1, 0, 1);
        StackedScript sixty = Check.told(Check.times("x", 60));
        Check.row("the last of sixty", what -> sixty.cluster(59, what), 59, 1, 3, 0, 0, 59, 0, 0, 0, 1, 3, -2);
        Check.due("behind sixty", sixty.cluster(60, 0), -2);
    }

    private static void promise15Facts() {
        StackedScript s = Start.some();
        Check.row("e", what -> s.cluster(0, what), 0, 1, 1, 0, 0, 0, 0, 0, 0, 1, 4);
        Check.row("ko", what -> s.cluster(1, what), 1, 2, 0, 0, 1, 1, 0, 0, 0, 3, 8);
        Check.row("khsim", what -> s.cluster(2, what), 3, 5, 0, 0, 2, 5, 0, 0, 1, 3, 7);
        Check.row("h", what -> s.cluster(3, what), 8, 1, 2, 1, 0, NONE, 0, 0, 0, 2, 3);
        Check.row("x", what -> s.cluster(4, what), 9, 1, 3, 0, 0, 9, 0, 0, 0, 1, 3);
        Check.row("rhkhtu", what -> s.cluster(5, what), 10, 6, 0, 0, 3, 12, 1, 1, 0, 4, 4);
        Check.row("khj", what -> s.cluster(6, what), 16, 3, 0, 1, 1, 16, 0, 0, 0, 3, 4);
        Check.row("b", what -> s.cluster(7, what), 19, 1, 3, 0, 0, 19, 0, 0, 0, 1, 0);
    }

    // "5: the place of BASE (of a vowel, a LETTER alone: it; NONE: BROKEN)" "(4, 6, 7, 8: 0 without a CHAIN.)"
    private static void promise15None() {
        String[] broken = {"n", "h", "i", "u", "d", "a", "o", "m", "z", "nhj", "nim", "hb", "ia"};
        for (String text : broken) {
            StackedScript s = Check.told("x" + text);
            Check.due("base of " + text, s.cluster(1, 5), NONE);
            Check.due("sort of " + text, s.cluster(1, 2), 2);
            noChain(s, text);
        }
        for (String text : new String[] {"e", "en", "ez", "x", "j", "b"}) {
            StackedScript s = Check.told("x" + text);
            Check.due("base of " + text, s.cluster(1, 5), 1);
            noChain(s, text);
        }
        for (String text : new String[] {"nh", "nhj", "nhjm", "h", "hj", "kh", "knh", "khj", "khsh"}) {
            Check.due("dead: " + text, Check.told("x" + text).cluster(1, 3), 1);
        }
        for (String text : new String[] {"n", "ni", "nm", "i", "m", "k", "kn", "khs", "e", "en", "kkh", "nkh", "ehm",
            "ih", "xh"}) {
            Check.due("not dead: " + text, Check.told("x" + text).cluster(1, 3), 0);
        }
        // Behind a cluster that has all of these.
        StackedScript s = Check.told("rhkhshthz" + "hx");
        noChain(s, "h behind another");
    }

    private static void noChain(StackedScript s, String text) {
        for (int what : new int[] {4, 6, 7, 8}) {
            Check.due("fact " + what + " of " + text, s.cluster(1, what), 0);
        }
    }

    // "The cluster of a place. NONE: there is none; -3: it is below 0."
    private static void promise16Of() {
        Whole.eachUnchanged("of", Start::some, StackedScript::of, -3, LEAST, -2, -1);
        Whole.eachUnchanged("of", Start::some, StackedScript::of, NONE, 20, 21, 60, GREATEST);
        Whole.eachUnchanged("of none", Start::noText, StackedScript::of, NONE, 0, 1, GREATEST);
        Whole.eachUnchanged("of sixty", Start::full, StackedScript::of, NONE, 60, 61);
        Check.row("of", Start.some()::of, 0, 1, 1, 2, 2, 2, 2, 2, 3, 4, 5, 5, 5, 5, 5, 5, 6, 6, 6, 7, NONE);
        Check.due("the last of sixty", Start.full().of(59), 14);
        StackedScript s = Start.full();
        s.backspace(60);
        Check.due("a place that is gone", s.of(59), NONE);
    }

    // "Clusters that are BROKEN: how many (i NONE), else the i-th. NONE: not so many; -3: i is below NONE."
    private static void promise17Broken() {
        Whole.eachUnchanged("broken", Start::some, StackedScript::broken, -3, LEAST, -3, -2);
        Whole.eachUnchanged("broken", Start::some, StackedScript::broken, NONE, 1, 2, 60, GREATEST);
        Check.due("how many", Start.some().broken(NONE), 1);
        Check.row("they", Start.some()::broken, 3, NONE);
        Check.due("none", Start.full().broken(NONE), 0);
        Check.row("none of them", Start.full()::broken, NONE, NONE);
        Check.due("none at all", Start.noText().broken(NONE), 0);
        Check.due("the first of none", Start.noText().broken(0), NONE);
        StackedScript all = Check.told(Check.times("h", 60));
        Check.due("sixty", all.broken(NONE), 60);
        Check.due("the first of sixty", all.broken(0), 0);
        Check.due("the last of sixty", all.broken(59), 59);
        Check.due("behind it", all.broken(60), NONE);
    }

    // "how many (i NONE), else the place of the i-th of these, rising ... NONE: not so many; -3: i is below NONE."
    private static void promise18Mend() {
        Whole.eachUnchanged("mend", Start::some, StackedScript::mend, -3, LEAST, -3, -2);
        Whole.eachUnchanged("mend", Start::some, StackedScript::mend, NONE, 1, 2, 60, GREATEST);
        Whole.unchanged("mend how many", Start::some, s -> s.mend(NONE), 1);
        Check.row("its place", Start.some()::mend, 8, NONE);
        Check.due("none", Start.full().mend(NONE), 0);
        Check.due("the first of none", Start.full().mend(0), NONE);
        Check.due("none at all", Start.noText().mend(NONE), 0);
        Check.due("the first of none at all", Start.noText().mend(0), NONE);
        StackedScript all = Check.told(Check.times("n", 60));
        Check.due("sixty", all.mend(NONE), 60);
        for (int i = 0; i < 60; i++) {
            Check.due("of sixty", all.mend(i), i);
        }
        Check.due("behind the last", all.mend(60), NONE);
    }

    private static void mend(String text, int... places) {
        StackedScript s = Check.told(text);
        Check.due("how many of " + text, s.mend(NONE), places.length);
        Check.row("mend " + text, s::mend, places);
        Check.due("no more of " + text, s.mend(places.length), NONE);
    }

    // "The fewest LETTERS ...; of like many those whose places come first: at the first unlike ones the lesser"
    private static void promise18MendFewest() {
        mend("khi", 1);
        mend("kih", 1);
        mend("knn", 1);
        mend("kmi", 1);
        mend("khh", 1);
        mend("khhh", 1, 2);
        mend("kiih", 3);
        mend("khii", 1);
        mend("khin", 1, 2);
        mend("khim", 1);
        mend("kmmi", 3);
        mend("kmmih", 3, 4);
        mend("hk", 0);
        mend("khihk", 1, 2);
        mend("enn", 1);
        mend("eni", 2);
        mend("emn", 1);
        mend("xn", 1);
        mend("xhkhhs", 1, 3);
        mend("kjh", 1);
        mend("khjh", 3);
        mend("khjjh", 4);
        mend("khmi", 3);
        mend("khmih", 3, 4);
        mend("nkn", 0);
        mend("kih" + "kih", 1, 4);
        StackedScript shorter = Check.told(Check.times("h", 60));
        Check.due("many", shorter.mend(NONE), 60);
        Check.text(shorter, "kiih");
        Check.row("fewer of the same object", shorter::mend, 3, NONE);
        Check.text(shorter, "kkkki");
        Check.due("none where a sign stands on k", shorter.mend(NONE), 0);
        Check.text(shorter, "kkkx");
        Check.due("none where the text ends there", shorter.mend(NONE), 0);
        Check.text(shorter, "kii");
        Check.due("none of the same object", shorter.mend(NONE), 0);
        Check.row("none of these", shorter::mend, NONE, NONE);
        mend(Check.times("hi", 30), 0, 1, 2, 3, 4, 5, 6, 7, 8, 9, 10, 11, 12, 13, 14, 15, 16, 17, 18, 19, 20, 21, 22, 23,
            24, 25, 26, 27, 28, 29, 30, 31, 32, 33, 34, 35, 36, 37, 38, 39, 40, 41, 42, 43, 44, 45, 46, 47, 48, 49, 50,
            51, 52, 53, 54, 55, 56, 57, 58, 59);
    }

    // "there are no more BROKEN clusters than now. -5: the place (0 to how many there are)."
    private static void promise19May() {
        Whole.eachUnchanged("may", Start::some, StackedScript::may, -5, LEAST, -2, -1, 21, 22, 60, GREATEST);
        Whole.eachUnchanged("may in none", Start::noText, StackedScript::may, -5, LEAST, -1, 1, GREATEST);
        Whole.eachUnchanged("may in sixty", Start::full, StackedScript::may, -5, -1, 61);
        Check.same("in none", Check.lettersOf(Start.noText().may(0)), HARMLESS);
        Check.due("without kinds", Start.fresh().may(0), 0x3ffffff);
        Check.same("at 0", Check.lettersOf(Start.some().may(0)), HARMLESS);
        Check.same("at the end", Check.lettersOf(Start.some().may(20)), HARMLESS);
        // One broken cluster: what keeps one broken may come in, what makes two may not.
        StackedScript s = Check.told("h");
        Check.same("ahead of a broken one", Check.lettersOf(s.may(0)), "bcefgjklnpqrstvwxy");
        Check.same("behind a broken one", Check.lettersOf(s.may(1)), "bcefgjklmpqrstvwxyz");
        // What parts a sign, a nukta, a mark from what it stands on breaks it.
        Check.same("between k and a sign", Check.lettersOf(Check.told("ki").may(1)), "adgiknorstu");
        Check.same("between k and a mark", Check.lettersOf(Check.told("km").may(1)), "adeghikmnorstuz");
        Check.same("between k and a nukta", Check.lettersOf(Check.told("kn").may(1)), "egkrst");
        Check.same("between k and a virama", Check.lettersOf(Check.told("kh").may(1)), "gknrst");
        Check.same("between h and s", Check.lettersOf(Check.told("khs").may(2)), "bcefgjklmpqrstvwxyz");
        StackedScript z = Check.told("consonants az;virama h;", "a");
        Check.due("the bits of a and z are the first and the last", z.may(0) >>> 25 & z.may(0) & 1, 1);
        Check.due("no more bits", z.may(0) >>> 26, 0);
    }

    // "(However many there are.)"
    private static void promise19MayHoweverMany() {
        StackedScript s = Start.full();
        Check.same("at 0 of sixty", Check.lettersOf(s.may(0)), HARMLESS);
        // khso|khso: behind o all signs, marks and tails.
        Check.same("at 60 of sixty", Check.lettersOf(s.may(60)), "abcdefgijklmopqrstuvwxyz");
        Check.due("still sixty", s.count(0), 60);
        Check.due("may, but there are sixty", s.insert(60, 0), -4);
    }

    // "All that is mended is taken out: how many LETTERS there are then."
    private static void promise20Mended() {
        StackedScript s = Start.some();
        Check.due("one of twenty", s.mended(), 19);
        Check.same("without it", Check.textOf(s), "ekokhsimxrhkhtukhjb");
        Check.due("none is broken", s.broken(NONE), 0);
        Check.due("none of nineteen", s.mended(), 19);
        Check.due("both can be undone", s.count(4), 7);
        Check.due("undone", s.undo(2), 5);
        Check.same("as it was", Check.textOf(s), Start.SOME);
        StackedScript all = Check.told(Check.times("h", 60));
        Check.due("all of sixty", all.mended(), 0);
        Check.due("no clusters", all.clusters(), 0);
        Check.due("of none", Start.fresh().mended(), 0);
        Check.due("none of sixty", Start.full().mended(), 60);
    }
}
