/** Promises 21 to 25: glyphs. */
public final class GlyphsTest {
    private static final int NONE = StackedScript.NONE;
    private static final String MORE = "consonants kgtrsp;virama h;nukta n;before i;above u;below d;behind a;"
        + "splits oia;splits cai;splits fuu;splits lud;marks m;tails z;joiner j;breaker b;ra r;stack t;half kgs;"
        + "joins ks;joins kt;joins gg;vowels e;";

    private GlyphsTest() {
    }

    public static void main(String[] args) {
        howMany();
        forms();
        ends();
        splits();
        joined();
        facts();
        wide();
        shown();
        back();
        ordered();
        Check.end();
    }

    private static void howMany() {
        Check.due("none", Check.told("").glyphs(), 0);
        Check.due("one", Check.told("k").glyphs(), 1);
        Check.due("a circle and two parts", Check.told("o").glyphs(), 3);
        Check.due("sixty split ones, one cluster", Check.told(Check.times("o", 60)).glyphs(), 121);
        Check.due("circles", Check.told(Check.times("oh", 30)).glyphs(), 150);
    }

    private static void drawn(String text, String want) {
        Check.same("glyphs of " + text, Check.glyphsOf(Check.told(MORE, text)), want);
    }

    private static void forms() {
        drawn("k", "2.0k@0");
        drawn("kn", "2.0k@0 2.9n@1");
        drawn("e", "2.13e@0");
        drawn("en", "2.13e@0 2.9n@1");
        drawn("x", "2.12x@0");
        drawn("j", "2.10j@0");
        drawn("b", "2.10b@0");
        drawn("h", "2.11@-1 4.8h@0");
        drawn("n", "2.11@-1 2.9n@0");
        drawn("nhbm", "2.11@-1 2.9n@0 4.8h@1 4.10b@2 7.7m@3");
        drawn("kh", "2.0k@0 4.8h@1");
        drawn("knhjz", "2.0k@0 2.9n@1 4.8h@2 4.10j@3 9.7z@4");
        drawn("khg", "1.1k@0 2.0g@2");
        drawn("knhg", "1.1k@0 1.9n@1 2.0g@3");
        drawn("khjg", "1.1k@0 1.10j@2 2.0g@3");
        drawn("khbg", "1.0k@0 1.8h@1 1.10b@2 2.0g@3");
        drawn("phg", "1.0p@0 1.8h@1 2.0g@2");
        drawn("pnhg", "1.0p@0 1.9n@1 1.8h@2 2.0g@3");
        drawn("phjgn", "1.0p@0 1.8h@1 1.10j@2 2.0g@3 2.9n@4");
        drawn("pht", "2.0p@0 3.4t@2");
        drawn("pnhtnht", "2.0p@0 2.9n@1 3.4t@3 3.9n@4 3.4t@6");
        drawn("pnhtnhp", "1.0p@0 1.9n@1 1.8h@2 1.0t@3 1.9n@4 1.8h@5 2.0p@6");
        drawn("phjtht", "1.0p@0 1.8h@1 1.10j@2 2.0t@3 3.4t@5");
        drawn("rhk", "2.0k@2 6.5r@0");
        drawn("rhkhp", "1.1k@2 2.0p@4 6.5r@0");
        drawn("rnhk", "1.0r@0 1.9n@1 1.8h@2 2.0k@3");
        drawn("rhjk", "1.0r@0 1.8h@1 1.10j@2 2.0k@3");
        drawn("rhph", "2.0p@2 4.8h@3 6.5r@0");
        drawn("rhthtm", "2.0t@2 3.4t@4 6.5r@0 7.7m@5");
    }

    private static void ends() {
        drawn("kaduimz", "0.6i@4 2.0k@0 4.6d@2 5.6u@3 7.7m@5 8.6a@1 9.7z@6");
        drawn("kzmzm", "2.0k@0 7.7m@2 7.7m@4 9.7z@1 9.7z@3");
        drawn("kiaia", "0.6i@1 0.6i@3 2.0k@0 8.6a@2 8.6a@4");
        drawn("aduizm", "0.6i@3 2.11@-1 4.6d@1 5.6u@2 7.7m@5 8.6a@0 9.7z@4");
        drawn("nia", "0.6i@1 2.11@-1 2.9n@0 8.6a@2");
        drawn("ezm", "2.13e@0 7.7m@2 9.7z@1");
        drawn("rhkuimaz", "0.6i@4 2.0k@2 5.6u@3 6.5r@0 7.7m@5 2.11@-1 8.6a@6 9.7z@7");
        drawn("phtud", "2.0p@0 3.4t@2 4.6d@4 5.6u@3");
        drawn("kkh", "2.0k@0 2.0k@1 4.8h@2");
    }

    private static void splits() {
        drawn("ko", "0.6i@1 2.0k@0 8.6a@1");
        drawn("kc", "0.6i@1 2.0k@0 8.6a@1");
        drawn("kf", "2.0k@0 5.6u@1 5.6u@1");
        drawn("kl", "2.0k@0 4.6d@1 5.6u@1");
        drawn("kofcul", "0.6i@1 0.6i@3 2.0k@0 4.6d@5 5.6u@2 5.6u@2 5.6u@4 5.6u@5 8.6a@1 8.6a@3");
        drawn("kiocia", "0.6i@1 0.6i@2 0.6i@3 0.6i@4 2.0k@0 8.6a@2 8.6a@3 8.6a@5");
        drawn("o", "0.6i@0 2.11@-1 8.6a@0");
    }

    private static void joined() {
        drawn("khs", "2.2ks@0");
        drawn("khsn", "2.2ks@0 2.9n@3");
        drawn("khsh", "2.2ks@0 4.8h@3");
        drawn("khshp", "1.3ks@0 2.0p@4");
        drawn("khsnhp", "1.3ks@0 1.9n@3 2.0p@5");
        drawn("khshjp", "1.3ks@0 1.10j@4 2.0p@5");
        drawn("khshbp", "1.2ks@0 1.8h@3 1.10b@4 2.0p@5");
        drawn("khsnhbp", "1.2ks@0 1.9n@3 1.8h@4 1.10b@5 2.0p@6");
        drawn("khthp", "1.2kt@0 1.8h@3 2.0p@4");
        drawn("khtnhp", "1.2kt@0 1.9n@3 1.8h@4 2.0p@5");
        drawn("khshkhsht", "1.3ks@0 2.2ks@4 3.4t@8");
        drawn("ghghg", "1.3gg@0 2.0g@4");
        drawn("ghghghg", "1.3gg@0 2.2gg@4");
        drawn("knhs", "1.1k@0 1.9n@1 2.0s@3");
        drawn("khjs", "1.1k@0 1.10j@2 2.0s@3");
        drawn("kht", "2.0k@0 3.4t@2");
        drawn("khjt", "1.1k@0 1.10j@2 2.0t@3");
        drawn("rhkhs", "2.2ks@2 6.5r@0");
        drawn("phkhs", "1.0p@0 1.8h@1 2.2ks@2");
    }

    private static void facts() {
        StackedScript s = Check.told("ekhsoh");
        // e | (i) ks (a) | circle h
        Check.due("glyphs", s.glyphs(), 6);
        Check.row("e", what -> s.glyph(0, what), 13, 'e' - 'a', NONE, 0, 0, 2, 4, -2);
        Check.row("i", what -> s.glyph(1, what), 6, 'i' - 'a', NONE, 4, 1, 0, 2, -2);
        Check.row("ks", what -> s.glyph(2, what), 2, 'k' - 'a', 's' - 'a', 1, 1, 2, 5, -2);
        Check.row("a", what -> s.glyph(3, what), 6, 0, NONE, 4, 1, 8, 2, -2);
        Check.row("circle", what -> s.glyph(4, what), 11, NONE, NONE, NONE, 2, 2, 3, -2);
        Check.row("h", what -> s.glyph(5, what), 8, 'h' - 'a', NONE, 5, 2, 4, 0, -2);
        Check.due("behind", s.glyph(6, 0), -2);
        Check.due("below", s.glyph(-1, 0), -2);
        Check.due("below what", s.glyph(0, -1), -2);
        Check.due("far", s.glyph(Integer.MAX_VALUE, Integer.MAX_VALUE), -2);
    }

    private static void wide() {
        wideOf("k", 4);
        wideOf("khg", 2, 4);
        wideOf("khs", 5);
        wideOf("khshg", 3, 4);
        wideOf("pht", 4, 0);
        wideOf("rhk", 4, 0);
        wideOf("kiudazm", 2, 4, 0, 0, 0, 2, 1);
        wideOf("h", 3, 0);
        wideOf("x", 3);
        wideOf("j", 0);
        wideOf("en", 4, 0);
        wideOf("khbg", 4, 0, 0, 4);
        wideOf("kf", 4, 0, 0);
        wideOf("ko", 2, 4, 2);
    }

    private static void wideOf(String text, int... want) {
        StackedScript s = Check.told(MORE, text);
        Check.row("wide " + text, k -> s.glyph(k, 6), want);
        int all = 0;
        for (int wide : want) {
            all += wide;
        }
        Check.due("cluster's glyphs " + text, s.cluster(0, 9), want.length);
        Check.due("cluster's width " + text, s.cluster(0, 10), all);
    }

    private static void shownBy(String text, int... want) {
        StackedScript s = Check.told(MORE, text);
        Check.row("shown " + text, s::shown, want);
        Check.due("behind " + text, s.shown(text.length()), NONE);
        // Behind another cluster, on an object that has shown others.
        Check.text(s, "e" + text);
        Check.row("shown e" + text, place -> s.shown(place + 1) - 1, want);
    }

    private static void shown() {
        shownBy("rhkhto", 3, 3, 1, 2, 2, 0);
        shownBy("khsi", 1, 1, 1, 0);
        shownBy("khg", 0, 0, 1);
        shownBy("khjg", 0, 0, 1, 2);
        shownBy("knhg", 0, 1, 0, 2);
        shownBy("khbg", 0, 1, 2, 3);
        shownBy("phg", 0, 1, 2);
        shownBy("khshjp", 0, 0, 0, 0, 1, 2);
        shownBy("khshbp", 0, 0, 0, 1, 2, 3);
        shownBy("khtnhp", 0, 0, 0, 1, 2, 3);
        shownBy("pnhtnht", 0, 1, 2, 2, 3, 4, 4);
        shownBy("kh", 0, 1);
        shownBy("khjm", 0, 1, 2, 3);
        shownBy("h", 1);
        shownBy("kc", 1, 2);
        shownBy("kl", 0, 2);
        shownBy("kf", 0, 1);
        shownBy("ek", 0, 1);
        shownBy("kko", 0, 2, 1);
        StackedScript s = Check.told("k");
        Check.due("below", s.shown(-1), -3);
        Check.due("far", s.shown(Integer.MAX_VALUE), NONE);
        Check.due("sixty", s.shown(60), NONE);
    }

    private static void readBack(String text, String want) {
        StackedScript s = Check.told(MORE, text);
        Check.same("back " + text, Check.backOf(s), want);
        Check.due("how many back " + text, s.back(NONE), want.length());
        Check.due("ordered " + text, s.isOrdered(), text.equals(want) ? 1 : 0);
        Check.due("order " + text, s.order(), want.length());
        Check.same("text " + text, Check.textOf(s), want);
        Check.due("ordered then " + text, s.isOrdered(), 1);
    }

    private static void back() {
        readBack("", "");
        readBack("rhkhto", "rhkhtia");
        readBack("khbsnhtnhj", "khbsnhtnhj");
        readBack("kaduizm", "kiudamz");
        readBack("kc", "kia");
        readBack("kl", "kud");
        readBack("kfluo", "kiuuuuda");
        readBack("nadkzm", "nda" + "kmz");
        readBack("ezmzm", "emmzz");
        readBack("khzm", "khmz");
        readBack("aikai", "iakia");
        readBack("xjba", "xjba");
        StackedScript s = Check.told("ki");
        Check.due("below", s.back(-2), -3);
        Check.row("back", s::back, 'k' - 'a', 'i' - 'a', NONE);
        Check.due("far", s.back(Integer.MAX_VALUE), NONE);
        Check.due("a hundred and twenty", Check.told(Check.times("o", 60)).back(NONE), 120);
        Check.due("the last of them", Check.told(Check.times("o", 60)).back(119), 0);
        Check.due("behind the last", Check.told(Check.times("o", 60)).back(120), NONE);
    }

    private static void ordered() {
        Check.due("none", Check.told("").isOrdered(), 1);
        Check.due("signs in order", Check.told("kiuda").isOrdered(), 1);
        Check.due("of as many letters", Check.told("kui").isOrdered(), 0);
        Check.due("a split one", Check.told("ko").isOrdered(), 0);
        Check.due("tails ahead of marks", Check.told("kzm").isOrdered(), 0);
        Check.due("two clusters", Check.told("kaki").isOrdered(), 1);
    }
}
