/** Counts answers that aren't the ones due; the script that most tests tell. */
final class Check {
    static final String SCRIPT = "consonants kgtrs;vowels e;virama h;nukta n;before i;above u;below d;behind a;"
        + "splits oia;marks m;tails z;joiner j;breaker b;ra r;stack t;half kg;joins ks;";

    private static int wrong = 0;
    private static int asked = 0;

    private Check() {
    }

    static void due(String what, long got, long want) {
        asked++;
        if (got != want) {
            wrong++;
            System.out.println(what + " answered " + got + ", due is " + want);
        }
    }

    /** One answer for each number, asked by its place in the row. */
    static void row(String what, java.util.function.IntUnaryOperator call, int... want) {
        for (int i = 0; i < want.length; i++) {
            due(what + " of " + i, call.applyAsInt(i), want[i]);
        }
    }

    static void end() {
        System.out.println(asked + " answers, " + wrong + " not as due");
        if (wrong != 0) {
            System.exit(1);
        }
    }

    /** Feeds a text (blanks behind it, as feeding goes by twenty); how many bytes it has. */
    static int feed(StackedScript s, String text) {
        for (int p = 0; p < text.length(); p += 20) {
            int[] ints = new int[5];
            for (int k = 0; k < 20; k++) {
                int b = p + k < text.length() ? text.charAt(p + k) : 32;
                ints[k / 4] = ints[k / 4] << 8 | b & 255;
            }
            s.feed(ints[0], ints[1], ints[2], ints[3], ints[4]);
        }
        return text.length();
    }

    static int script(StackedScript s, String text) {
        return s.script(feed(s, text));
    }

    static int text(StackedScript s, String text) {
        return s.text(feed(s, text));
    }

    static int find(StackedScript s, String text, int from) {
        return s.find(feed(s, text), from);
    }

    static StackedScript told(String script, String text) {
        StackedScript s = new StackedScript();
        script(s, script);
        text(s, text);
        return s;
    }

    /** With the usual script. */
    static StackedScript told(String text) {
        return told(SCRIPT, text);
    }

    static String textOf(StackedScript s) {
        StringBuilder row = new StringBuilder();
        for (int p = 0; s.at(p) != StackedScript.NONE; p++) {
            row.append((char) ('a' + s.at(p)));
        }
        return row.toString();
    }

    static String backOf(StackedScript s) {
        StringBuilder row = new StringBuilder();
        for (int i = 0; s.back(i) != StackedScript.NONE; i++) {
            row.append((char) ('a' + s.back(i)));
        }
        return row.toString();
    }

    /** The letters that are told as bits. */
    static String lettersOf(int bits) {
        StringBuilder row = new StringBuilder();
        for (int letter = 0; letter < 32; letter++) {
            if ((bits >>> letter & 1) == 1) {
                row.append((char) ('a' + letter));
            }
        }
        return row.toString();
    }

    /** All glyphs as their rank, their form, their letters, the place told: "2.0k@0". */
    static String glyphsOf(StackedScript s) {
        StringBuilder row = new StringBuilder();
        for (int k = 0; k < s.glyphs(); k++) {
            row.append(k == 0 ? "" : " ").append(s.glyph(k, 5)).append('.').append(s.glyph(k, 0));
            for (int letter = 1; letter <= 2; letter++) {
                if (s.glyph(k, letter) != StackedScript.NONE) {
                    row.append((char) ('a' + s.glyph(k, letter)));
                }
            }
            row.append('@').append(s.glyph(k, 3));
        }
        return row.toString();
    }

    static void same(String what, String got, String want) {
        asked++;
        if (!got.equals(want)) {
            wrong++;
            System.out.println(what + " answered \"" + got + "\", due is \"" + want + "\"");
        }
    }

    static String times(String what, int many) {
        return what.repeat(many);
    }
}
