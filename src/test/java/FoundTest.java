/** Promises 36 to 40: found, compared. */
public final class FoundTest {
    private static final int NONE = StackedScript.NONE;
    private static final String MORE = "consonants kgs;virama h;nukta n;before i;above u;behind a;splits oia;"
        + "marks m;tails z;vowels e;joiner j;breaker b;half k;joins ks;joins kg;";

    private FoundTest() {
    }

    public static void main(String[] args) {
        find();
        findRefused();
        alike();
        kinds();
        compare();
        ranked();
        Check.end();
    }

    private static void find() {
        StackedScript s = Check.told("kakkhska");
        // ka, k, khs, ... the last: khska is khs, ka.
        Check.due("ka", Check.find(s, "ka", 0), 0);
        Check.due("tape", s.count(3), 0);
        Check.due("ka from 1", Check.find(s, "ka", 1), 6);
        Check.due("ka from 6", Check.find(s, "ka", 6), 6);
        Check.due("ka from 7", Check.find(s, "ka", 7), NONE);
        Check.due("k", Check.find(s, "k", 0), 2);
        Check.due("a part of a cluster", Check.find(s, "kh", 0), NONE);
        Check.due("a part of a cluster's end", Check.find(s, "hs", 0), NONE);
        Check.due("two clusters", Check.find(s, "kak", 0), 0);
        Check.due("two and a part", Check.find(s, "kakk", 0), NONE);
        Check.due("all", Check.find(s, "kakkhska", 0), 0);
        Check.due("more than all", Check.find(s, "kakkhskak", 0), NONE);
        Check.due("the end", Check.find(s, "khska", 0), 3);
        Check.due("other bytes", Check.find(s, "KA", 0), NONE);
        Check.due("other bytes too", Check.find(s, "ka ", 0), NONE);
        Check.due("none of them", Check.find(s, "", 0), NONE);
        Check.due("from the end", Check.find(s, "ka", 8), NONE);
        Check.due("the longest", Check.find(s, Check.times("k", 400), 0), NONE);
        Check.due("tape then", s.count(3), 0);
        Check.feed(s, "ka");
        Check.due("n 0", s.find(0, 0), NONE);
        Check.due("its tape", s.count(3), 0);
        Check.due("not undoable", s.count(4), 2);
        Check.due("in none", Check.find(Check.told(""), "k", 0), NONE);
    }

    private static void findRefused() {
        StackedScript s = Check.told("kak");
        Check.feed(s, "ka");
        Check.due("n below", s.find(-1, 0), -3);
        Check.due("n above", s.find(21, 0), -3);
        Check.due("most", s.find(Integer.MAX_VALUE, 0), -3);
        Check.due("n ahead of the place", s.find(21, 9), -3);
        Check.due("the place below", s.find(2, -1), -5);
        Check.due("the place above", s.find(2, 4), -5);
        Check.due("the place, n 0", s.find(0, 4), -5);
        Check.due("far", s.find(2, Integer.MAX_VALUE), -5);
        Check.due("the tape stays", s.count(3), 20);
        Check.due("then it is found", s.find(2, 0), 0);
    }

    private static void alike() {
        StackedScript s = Check.told("koioika");
        // ko io?: signs run on: koioi is one cluster; then ka.
        Check.due("clusters", s.clusters(), 2);
        Check.due("itself", s.alike(0, 0), 1);
        Check.due("not", s.alike(0, 1), 0);
        // A split sign is alike to its parts.
        s = Check.told("kokaikiakuk");
        Check.due("split and parts", s.alike(0, 1), 1);
        Check.due("parts in order", s.alike(0, 2), 1);
        Check.due("another sign", s.alike(0, 3), 0);
        Check.due("fewer glyphs", s.alike(3, 4), 0);
        Check.due("more glyphs", s.alike(4, 3), 0);
        // A whole one and a half one of the same letters.
        s = Check.told(MORE, "khghskhbghskhkkhskhg");
        Check.due("none such", s.alike(s.clusters(), 0), -2);
        Check.due("none such", s.alike(0, s.clusters()), -2);
        Check.due("below", s.alike(-1, 0), -2);
        Check.due("below", s.alike(0, -1), -2);
        s = Check.told(MORE, "khskhg");
        Check.due("the second letter", s.alike(0, 1), 0);
    }

    private static void kinds() {
        Check.due("none", Check.told("").kinds(), 0);
        Check.due("one", Check.told("kkkk").kinds(), 1);
        Check.due("split and parts", Check.told("kokiakai").kinds(), 1);
        Check.due("some", Check.told("kakka").kinds(), 2);
        Check.due("all", Check.told("kgtrse").kinds(), 6);
        Check.due("broken ones", Check.told("hhh").kinds(), 1);
    }

    /** The two clusters of a text. */
    private static void ahead(String text, int want) {
        ahead(MORE, text, want);
    }

    private static void ahead(String script, String text, int want) {
        StackedScript s = Check.told(script, text);
        Check.due("clusters of " + text, s.clusters(), 2);
        Check.due("compare of " + text, s.compare(0, 1), want);
        Check.due("the other way of " + text, s.compare(1, 0), want == 0 ? 0 : 3 - want);
        Check.due("alike of " + text, s.alike(0, 1), want == 0 ? 1 : 0);
        Check.due("first of " + text, s.ranked(0), want == 2 ? 1 : 0);
        Check.due("second of " + text, s.ranked(1), want == 2 ? 0 : 1);
        Check.due("kinds of " + text, s.kinds(), want == 0 ? 1 : 2);
    }

    private static void compare() {
        ahead("kk", 0);
        ahead("gk", 1);
        ahead("kg", 2);
        ahead("kka", 1);
        ahead("kok", 1);
        ahead("kokia", 0);
        // By the base first: g with k ahead of it is ahead of k.
        ahead("khjgk", 1);
        ahead("kkhjg", 2);
        // Then by all glyphs: the sign ahead comes first.
        ahead("kiku", 1);
        ahead("kukm", 2);
        // The circle is behind all letters.
        ahead("zh", 2);
        ahead("xh", 1);
        ahead("hx", 2);
        ahead("hk", 2);
        ahead("hh", 0);
        ahead("hi", 2);
        // The form: k is ahead of k joined to another, whole.
        ahead("kkhs", 1);
        ahead("khskhg", 2);
        ahead("khgkhs", 1);
        // A half ahead of base against a whole one: the form tells ahead of what comes behind.
        ahead("khjskhbs", 2);
        ahead(Check.SCRIPT, "khgkhbg", 2);
        // Joined whole against joined half: the form tells ahead of the second letter.
        ahead("consonants kgsp;virama h;half g;joins ks;joins kg;", "khghpkhshp", 2);
        StackedScript s = Check.told("k");
        Check.due("none such", s.compare(0, 1), -2);
        Check.due("none such", s.compare(1, 0), -2);
        Check.due("below", s.compare(-1, 0), -2);
        Check.due("below", s.compare(0, -1), -2);
        Check.due("far", s.compare(Integer.MAX_VALUE, Integer.MIN_VALUE), -2);
    }

    private static void ranked() {
        StackedScript s = Check.told("kakkaghke");
        // ka, k, ka, ghk, e
        Check.due("clusters", s.clusters(), 5);
        Check.row("ranked", s::ranked, 4, 3, 1, 0, 2, NONE, NONE);
        Check.due("below", s.ranked(-1), -3);
        Check.due("least", s.ranked(Integer.MIN_VALUE), -3);
        Check.due("far", s.ranked(Integer.MAX_VALUE), NONE);
        Check.due("none", Check.told("").ranked(0), NONE);
        StackedScript all = Check.told(Check.times("k", 60));
        for (int i = 0; i < 60; i++) {
            Check.due("of like ones the earlier", all.ranked(i), i);
        }
    }
}
