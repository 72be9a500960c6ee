import java.util.function.IntSupplier;

/** All promises: long runs of calls, each asked of the class and of the model. */
public final class ModelTest {
    private static final int RUNS = 400;
    private static final int SWEEPS = 1000;
    private static final int CALLS = 512;
    private static final String[] LINES = {"consonants kgtrs", "vowels e", "virama h", "nukta n", "before i", "above u",
        "below d", "behind a", "splits oia", "splits ciu", "splits lud", "splits faa", "marks m", "marks pq", "tails z",
        "joiner j", "breaker b", "ra r", "stack t", "stack kt", "half kg", "half rs", "joins ks", "joins kt",
        "joins kk", "joins gg", "joins sk", "joins rk", "joins tt", "joins gs", "joins st", "joins sg", "vowels vw",
        "tails y"};
    private static final String[] ODD = {"foo k", "consonants", "virama kk", "marks a1", "stack e", "joins k", "splits xx",
        "ra e", "half kk", "joins kgk", "nukta k", "", " ", "tails", "splits oii", "splits iai", "consonants k"};

    private final StackedScript s = new StackedScript();
    private final Model m = new Model();
    private final int run;
    private long seed;
    private int step = 0;

    private ModelTest(int run) {
        this.run = run;
        this.seed = run * 7919L + 17;
    }

    public static void main(String[] args) {
        int runs = args.length > 0 ? Integer.parseInt(args[0]) : RUNS;
        for (int run = 0; run < runs; run++) {
            new ModelTest(run).calls();
        }
        for (int run = 0; run < SWEEPS * runs / RUNS; run++) {
            new ModelTest(RUNS + run).sweep();
        }
        Check.end();
    }

    private int below(int n) {
        seed = seed * 6364136223846793005L + 1442695040888963407L;
        return (int) ((seed >>> 33) % n);
    }

    private void due(String call, int got, int want) {
        Check.due("run " + run + ", call " + step + ": " + call + " on \"" + m.letters() + "\"", got, want);
    }

    private void both(String call, IntSupplier ours, IntSupplier models) {
        step++;
        due(call, ours.getAsInt(), models.getAsInt());
    }

    private void feed(String text) {
        for (int p = 0; p < text.length(); p += 20) {
            int[] i = new int[5];
            for (int k = 0; k < 20; k++) {
                i[k / 4] = i[k / 4] << 8 | (p + k < text.length() ? text.charAt(p + k) & 255 : 32);
            }
            both("feed", () -> s.feed(i[0], i[1], i[2], i[3], i[4]), () -> m.feed(i));
        }
    }

    private String scriptText() {
        StringBuilder text = new StringBuilder();
        boolean plain = below(4) > 0;
        for (String line : LINES) {
            if (below(8) > 0) {
                text.append(line).append(below(300) == 0 ? "" : ";").append(below(10) == 0 ? "  " : "");
            }
            if (!plain && below(12) == 0) {
                text.append(ODD[below(ODD.length)]).append(";");
            }
        }
        return text.length() > 380 ? text.substring(0, text.lastIndexOf(";", 379) + 1) : text.toString();
    }

    private String textOf(int most) {
        if (below(3) == 0 && most > 10) {
            String text = chains(most);
            return text.substring(0, Math.min(most, text.length()));
        }
        String often = below(3) == 0 ? "kkkgtrshhhhhhjb" : below(2) == 0 ? "kgtrsehniudaoclfmpzjbx" : "kgshhtrnjbiuo";
        StringBuilder text = new StringBuilder();
        int n = below(most + 1);
        for (int p = 0; p < n; p++) {
            text.append(often.charAt(below(often.length())));
        }
        if (below(40) == 0) {
            text.append((char) below(256));
        }
        return text.toString();
    }

    private void tellScript() {
        String text = scriptText();
        int n = text.length();
        feed(text);
        if (below(20) == 0) {
            askTape();
        }
        both("script " + text, () -> s.script(n), () -> m.script(n));
        askFault();
    }

    private void askTape() {
        both("count(3)", () -> s.count(3), () -> m.count(3));
        int n = below(2) == 0 ? -1 - below(3) : 401 + below(9);
        both("script " + n, () -> s.script(n), () -> m.script(n));
        both("text " + n, () -> s.text(n), () -> m.text(n));
        both("find " + n, () -> s.find(n, 0), () -> m.find(n, 0));
        both("find at " + n, () -> s.find(0, n), () -> m.find(0, n));
    }

    private void askFault() {
        both("fault(0)", () -> s.fault(0), () -> m.fault(0));
        both("fault(1)", () -> s.fault(1), () -> m.fault(1));
    }

    private void tellText() {
        String text = textOf(below(3) == 0 ? Model.MOST_TRIED : 62);
        feed(text);
        both("text " + text, () -> s.text(text.length()), () -> m.text(text.length()));
        askFault();
    }

    private void findSome() {
        String text = m.letters();
        int from = below(text.length() + 1);
        int to = from + below(Math.min(8, text.length() - from + 1));
        String what = below(3) == 0 ? textOf(3) : text.substring(from, to);
        feed(what);
        int asked = below(3) == 0 ? from : 0;
        both("find " + what, () -> s.find(what.length(), asked), () -> m.find(what.length(), asked));
    }

    private void calls() {
        tellScript();
        while (step < CALLS - 25) {
            switch (below(14)) {
                case 0: tellText(); break;
                case 1: findSome(); break;
                case 2: case 3: change(below(12)); break;
                case 4: case 5: case 6: askClusters(below(10)); break;
                case 7: case 8: askGlyphs(below(8)); break;
                case 9: askCarets(below(5)); break;
                case 10: askLines(below(5)); break;
                case 11: askOrder(below(4)); break;
                case 12: askOthers(below(6)); break;
                default:
                    if (below(30) == 0) {
                        tellScript();
                    }
                    break;
            }
        }
    }

    /** Consonants with something between and behind them: long chains, or many like clusters. */
    private String chains(int most) {
        String[] between = {"h", "h", "h", "h", "h", "nh", "hj", "hb", "nhb", "", "i", "hm", "o"};
        String consonants = below(2) == 0 ? "kgtrs" : "kst";
        StringBuilder text = new StringBuilder(below(3) == 0 ? "rh" : "");
        while (text.length() < most - 4) {
            text.append(consonants.charAt(below(consonants.length()))).append(between[below(between.length)]);
        }
        return text.append(textOf(4)).toString();
    }

    /** All that can be asked of a short text, but for what would be more than 512 calls. */
    private void sweep() {
        tellScript();
        for (int texts = 0; texts < 2; texts++) {
            String text = below(4) == 0 ? textOf(Model.MOST_TRIED) : chains(4 + below(Model.MOST_TRIED - 4));
            feed(text);
            both("text " + text, () -> s.text(text.length()), () -> m.text(text.length()));
        }
        for (int i = -1; i <= m.count(0); i++) {
            int at = i;
            both("shown " + at, () -> s.shown(at), () -> m.shown(at));
            both("mend " + at, () -> s.mend(at), () -> m.mend(at));
            both("may " + at, () -> s.may(at), () -> m.may(at));
            both("back " + at, () -> s.back(at), () -> m.back(at));
            both("x " + at, () -> s.x(at), () -> m.x(at));
        }
        for (int what = 0; what < 7; what++) {
            for (int i = 0; i <= m.glyphs(); i++) {
                int k = i;
                int w = what;
                both("glyph " + k + " " + w, () -> s.glyph(k, w), () -> m.glyph(k, w));
            }
        }
        for (int i = 0; i < m.clusters(); i++) {
            int c = i;
            for (int what = 0; what < 11; what++) {
                int w = what;
                both("cluster " + c + " " + w, () -> s.cluster(c, w), () -> m.cluster(c, w));
            }
            both("ranked " + c, () -> s.ranked(c), () -> m.ranked(c));
        }
        both("order", s::order, m::order);
        both("kinds", s::kinds, m::kinds);
        both("mended", s::mended, m::mended);
        both("clusters", s::clusters, m::clusters);
    }

    private int place() {
        return below(16) == 0 ? below(80) - 5 : below(m.count(0) + 2);
    }

    private int number(int most) {
        return below(16) == 0 ? -3 + below(most + 10) : below(most + 1);
    }

    private void change(int which) {
        int at = place();
        int letter = below(3) == 0 ? number(26) : "kgtshhhniuoemz".charAt(below(14)) - 'a';
        switch (which) {
            case 0: case 1: case 2: case 3:
                both("insert " + at + " " + letter, () -> s.insert(at, letter), () -> m.insert(at, letter));
                break;
            case 4: both("backspace " + at, () -> s.backspace(at), () -> m.backspace(at)); break;
            case 5: both("delete " + at, () -> s.delete(at), () -> m.delete(at)); break;
            case 6: both("order", s::order, m::order); break;
            case 7:
                if (m.canBeTried()) {
                    both("mended", s::mended, m::mended);
                }
                break;
            case 8:
                if (below(5) == 0) {
                    both("erase", s::erase, m::erase);
                }
                break;
            case 9:
                int n = below(10) == 0 ? below(14) - 1 : 1 + below(3);
                both("undo " + n, () -> s.undo(n), () -> m.undo(n));
                break;
            case 10: int i = number(2); both("image " + i, () -> s.image(i), () -> m.image(i)); break;
            default:
                int k = number(2);
                if (below(4) == 0) {
                    both("restore " + k, () -> s.restore(k), () -> m.restore(k));
                }
                break;
        }
    }

    private void askClusters(int which) {
        int i = number(Math.max(0, m.clusters()));
        int what = number(11);
        int at = place();
        switch (which) {
            case 0: both("clusters", s::clusters, m::clusters); break;
            case 1: case 2: case 3: case 4:
                both("cluster " + i + " " + what, () -> s.cluster(i, what), () -> m.cluster(i, what));
                break;
            case 5: both("of " + at, () -> s.of(at), () -> m.of(at)); break;
            case 6: int b = below(8) - 2; both("broken " + b, () -> s.broken(b), () -> m.broken(b)); break;
            case 7: case 8:
                int o = below(7) - 2;
                if (m.canBeTried()) {
                    both("mend " + o, () -> s.mend(o), () -> m.mend(o));
                }
                break;
            default: both("may " + at, () -> s.may(at), () -> m.may(at)); break;
        }
    }

    private void askGlyphs(int which) {
        int k = number(m.glyphs());
        int what = number(7);
        int at = place();
        switch (which) {
            case 0: both("glyphs", s::glyphs, m::glyphs); break;
            case 1: case 2: case 3:
                both("glyph " + k + " " + what, () -> s.glyph(k, what), () -> m.glyph(k, what));
                break;
            case 4: case 5: both("shown " + at, () -> s.shown(at), () -> m.shown(at)); break;
            case 6: int i = at - 2; both("back " + i, () -> s.back(i), () -> m.back(i)); break;
            default: both("isOrdered", s::isOrdered, m::isOrdered); break;
        }
    }

    private void askCarets(int which) {
        int at = place();
        int by = below(6) == 0 ? number(3) : 1 - 2 * below(2);
        int x = number(below(4) == 0 ? 1010 : m.count(5) + 2);
        switch (which) {
            case 0: both("stops", s::stops, m::stops); break;
            case 1: both("stop " + at, () -> s.stop(at), () -> m.stop(at)); break;
            case 2: both("next " + at + " " + by, () -> s.next(at, by), () -> m.next(at, by)); break;
            case 3: both("x " + at, () -> s.x(at), () -> m.x(at)); break;
            default: both("hit " + x, () -> s.hit(x), () -> m.hit(x)); break;
        }
    }

    private void askLines(int which) {
        int w = below(3) == 0 ? number(201) : below(25);
        int i = number(8);
        int n = below(3) == 0 ? number(61) : below(8);
        switch (which) {
            case 0: both("lines " + w, () -> s.lines(w), () -> m.lines(w)); break;
            case 1: both("lineEnd " + w + " " + i, () -> s.lineEnd(w, i), () -> m.lineEnd(w, i)); break;
            case 2: both("even " + w, () -> s.even(w), () -> m.even(w)); break;
            case 3: both("evenEnd " + w + " " + i, () -> s.evenEnd(w, i), () -> m.evenEnd(w, i)); break;
            default: both("narrowest " + n, () -> s.narrowest(n), () -> m.narrowest(n)); break;
        }
    }

    private void askOrder(int which) {
        int i = number(Math.max(0, m.clusters()));
        int j = number(Math.max(0, m.clusters()));
        switch (which) {
            case 0: both("alike " + i + " " + j, () -> s.alike(i, j), () -> m.alike(i, j)); break;
            case 1: both("kinds", s::kinds, m::kinds); break;
            case 2: both("compare " + i + " " + j, () -> s.compare(i, j), () -> m.compare(i, j)); break;
            default: both("ranked " + i, () -> s.ranked(i), () -> m.ranked(i)); break;
        }
    }

    private void askOthers(int which) {
        int a = number(26);
        int b = number(26);
        int what = number(8);
        switch (which) {
            case 0: both("letter " + a + " " + what, () -> s.letter(a, what), () -> m.letter(a, what)); break;
            case 1: both("joins " + a + " " + b, () -> s.joins(a, b), () -> m.joins(a, b)); break;
            case 2: int at = place(); both("at " + at, () -> s.at(at), () -> m.at(at)); break;
            case 3: case 4: both("count " + what, () -> s.count(what), () -> m.count(what)); break;
            default: askTape(); break;
        }
    }
}
