import java.util.ArrayList;
import java.util.Arrays;
import java.util.Comparator;
import java.util.List;
import java.util.Set;
import java.util.TreeSet;
import java.util.regex.Matcher;
import java.util.regex.Pattern;

/**
 * A second program, written from the document alone and in other ways: clusters by looking
 * ahead, glyphs sorted by their rank, letters to be mended tried out. It makes all anew at
 * each call and minds neither the room nor the rules of the class.
 */
final class Model {
    static final int NONE = -1;
    /** More letters than these aren't tried out: mend and mended aren't asked of the model then. */
    static final int MOST_TRIED = 11;

    private static final String[] WORDS = {"consonants", "vowels", "virama", "nukta", "before", "above", "below",
        "behind", "splits", "marks", "tails", "joiner", "breaker", "ra", "stack", "half", "joins"};

    private static final Pattern LINE = Pattern.compile("( *)([a-z]*)( *)([a-z]*)( *)(;?)");

    /** All that can be undone; never changed once it is made. */
    private record Told(int[] kinds, String[] parts, String ra, String stack, String half, List<String> pairs,
        String text) {
        Told withText(String other) {
            return new Told(kinds, parts, ra, stack, half, pairs, other);
        }
    }

    private record Glyph(int form, String letters, int place, int cluster, int rank, int wide) {
        String key() {
            return (letters.isEmpty() ? "~" : letters.substring(0, 1)) + (char) ('A' + form)
                + (letters.length() > 1 ? letters.substring(1) : "!");
        }
    }

    private Told now = new Told(new int[26], new String[26], "", "", "", List.of(), "");
    private final List<Told> past = new ArrayList<>();
    private final Told[] images = new Told[2];
    private Told tried = null;
    private List<Integer> triedOut = List.of();
    private String tape = "";
    private int fault = 0;
    private int faultPlace = NONE;

    // ---- what was told

    String letters() {
        return now.text;
    }

    private int kind(char letter) {
        return now.kinds[letter - 'a'];
    }

    private int kindAt(String text, int p) {
        return p < text.length() ? kind(text.charAt(p)) : -1;
    }

    private boolean is(String text, int p, int... kinds) {
        int kind = kindAt(text, p);
        return Arrays.stream(kinds).anyMatch(k -> k == kind);
    }

    private int end(String text, int from) {
        int p = from;
        if (is(text, p, 3)) {
            p++;
            if (is(text, p, 12, 13)) {
                p++;
            }
        } else {
            while (is(text, p, 5, 6, 7, 8, 9)) {
                p++;
            }
        }
        return marks(text, p);
    }

    private int marks(String text, int from) {
        int p = from;
        while (is(text, p, 10, 11)) {
            p++;
        }
        return p;
    }

    /** Where the chain that begins at a place ends; its consonants are added. */
    private int chain(String text, int from, List<Integer> places) {
        places.add(from);
        int p = from + 1;
        if (is(text, p, 4)) {
            p++;
        }
        while (is(text, p, 3)) {
            int c = is(text, p + 1, 12, 13) ? p + 2 : p + 1;
            if (!is(text, c, 1)) {
                break;
            }
            places.add(c);
            p = is(text, c + 1, 4) ? c + 2 : c + 1;
        }
        return p;
    }

    /** Where the end (signs or a virama, marks, tails) of the cluster at a place begins. */
    private int endFrom(String text, int from) {
        switch (kindAt(text, from)) {
            case 1:
                return chain(text, from, new ArrayList<>());
            case 2:
                return is(text, from + 1, 4) ? from + 2 : from + 1;
            case 0: case 12: case 13:
                return from + 1;
            default:
                return is(text, from, 4) ? from + 1 : from;
        }
    }

    private int clusterEnd(String text, int from) {
        int p = endFrom(text, from);
        switch (kindAt(text, from)) {
            case 2:
                return marks(text, p);
            case 0: case 12: case 13:
                return p;
            default:
                return end(text, p);
        }
    }

    private List<Integer> stopsOf(String text) {
        List<Integer> stops = new ArrayList<>(List.of(0));
        int p = 0;
        while (p < text.length()) {
            p = clusterEnd(text, p);
            stops.add(p);
        }
        return stops;
    }

    private boolean isBroken(String text, int from) {
        return is(text, from, 3, 4, 5, 6, 7, 8, 9, 10, 11);
    }

    private int brokenOf(String text) {
        List<Integer> stops = stopsOf(text);
        return (int) stops.stream().filter(p -> p < text.length() && isBroken(text, p)).count();
    }

    // ---- glyphs

    private static int wide(int form, int kind) {
        int[] wide = {4, 2, 5, 3, 0, 0, kind == 5 || kind == 8 ? 2 : 0, kind == 11 ? 1 : 0, 0, 0, 0, 3, 3, 4};
        return wide[form];
    }

    private final class Drawn {
        final int cluster;
        final int from;
        final int to;
        final String text = now.text;
        final List<Glyph> glyphs = new ArrayList<>();
        final List<Integer> chain = new ArrayList<>();
        final Set<Integer> seconds = new TreeSet<>();
        final int[] by = new int[61];
        boolean reph;
        int base;
        final boolean dead;

        Drawn(int cluster, int from, int to) {
            this.cluster = cluster;
            this.from = from;
            this.to = to;
            int endFrom = endFrom(text, from);
            dead = endFrom < to && is(text, endFrom, 3);
            if (is(text, from, 1)) {
                chain(text, from, chain);
                choose();
                drawChain();
            } else if (is(text, from, 2)) {
                add(13, from, 2);
                addIf(9, from + 1, 2, 4);
            } else if (isBroken(text, from)) {
                glyphs.add(new Glyph(11, "", -1, cluster, 2, 3));
                addIf(9, from, 2, 4);
            } else {
                add(is(text, from, 0) ? 12 : 10, from, 2);
            }
            drawEnd(endFrom);
            glyphs.sort(Comparator.comparingInt(Glyph::rank).thenComparingInt(Glyph::place));
        }

        boolean nuktaAt(int i) {
            return chain.get(i) + 1 < to && is(text, chain.get(i) + 1, 4);
        }

        /** What stands between a consonant and the next one: its nukta left out. */
        String between(int i) {
            return text.substring(chain.get(i) + (nuktaAt(i) ? 2 : 1), chain.get(i + 1));
        }

        char consonant(int i) {
            return text.charAt(chain.get(i));
        }

        void choose() {
            reph = chain.size() > 1 && now.ra.equals("" + consonant(0)) && !nuktaAt(0) && between(0).length() == 1;
            int first = reph ? 1 : 0;
            base = first;
            for (int i = first; i < chain.size(); i++) {
                boolean behindJoiner = i > 0 && between(i - 1).length() == 2;
                if (behindJoiner || now.stack.indexOf(consonant(i)) < 0) {
                    base = i;
                }
            }
            for (int i = first; i < base; i++) {
                if (now.pairs.contains("" + consonant(i) + consonant(i + 1)) && between(i).length() == 1
                    && !nuktaAt(i) && !seconds.contains(i)) {
                    seconds.add(i + 1);
                }
            }
        }

        void add(int form, int place, int rank) {
            glyphs.add(new Glyph(form, text.substring(place, place + 1), place, cluster, rank,
                wide(form, kindAt(text, place))));
        }

        void addIf(int form, int place, int rank, int... kinds) {
            if (place < to && is(text, place, kinds)) {
                add(form, place, rank);
            }
        }

        void drawChain() {
            for (int i = 0; i < chain.size(); i++) {
                int place = chain.get(i);
                if (i == 0 && reph) {
                    add(5, place, 6);
                } else if (i > base) {
                    add(4, place, 3);
                    addIf(9, place + 1, 3, 4);
                } else if (!seconds.contains(i + 1)) {
                    drawWhole(i, place);
                }
            }
        }

        void drawWhole(int i, int place) {
            int rank = i == base ? 2 : 1;
            boolean breaker = i < base && between(i).length() == 2 && kind(between(i).charAt(1)) == 13;
            boolean half = i < base && now.half.indexOf(consonant(i)) >= 0 && !breaker;
            if (seconds.contains(i)) {
                glyphs.add(new Glyph(half ? 3 : 2, "" + consonant(i - 1) + consonant(i), chain.get(i - 1), cluster,
                    rank, half ? 3 : 5));
            } else {
                add(half ? 1 : 0, place, rank);
            }
            addIf(9, place + 1, rank, 4);
            if (i < base) {
                int v = chain.get(i + 1) - between(i).length();
                if (!half) {
                    add(8, v, 1);
                }
                addIf(10, v + 1, 1, 12, 13);
            }
        }

        void drawEnd(int endFrom) {
            int[] ranks = {0, 0, 0, 0, 0, 0, 5, 4, 8, 0, 7, 9};
            for (int p = endFrom; p < to; p++) {
                int kind = kindAt(text, p);
                if (kind == 9) {
                    for (char part : now.parts[text.charAt(p) - 'a'].toCharArray()) {
                        glyphs.add(new Glyph(6, "" + part, p, cluster, ranks[kind(part)], wide(6, kind(part))));
                    }
                } else if (kind == 3 || kind == 12 || kind == 13) {
                    add(kind == 3 ? 8 : 10, p, 4);
                } else {
                    add(kind > 9 ? 7 : 6, p, ranks[kind]);
                }
            }
        }

        /** The glyph that shows the letter at a place. */
        int shownBy(int place) {
            int asked = place;
            int i = (int) chain.stream().filter(c -> c <= place).count() - 1;
            boolean between = i >= 0 && i + 1 < chain.size();
            if (between && is(text, place, 3)) {
                if (i == 0 && reph) {
                    asked = chain.get(0);
                } else if (i + 1 > base) {
                    asked = chain.get(i + 1);
                } else if (seconds.contains(i + 1)) {
                    asked = chain.get(i);
                } else if (glyphAt(place) < 0) {
                    asked = chain.get(i);
                }
            }
            if (i >= 0 && seconds.contains(i) && asked == chain.get(i)) {
                asked = chain.get(i - 1);
            }
            if (is(text, place, 9)) {
                String part = now.parts[text.charAt(place) - 'a'].substring(0, 1);
                for (int k = 0; k < glyphs.size(); k++) {
                    if (glyphs.get(k).place == place && glyphs.get(k).letters.equals(part)) {
                        return k;
                    }
                }
            }
            return glyphAt(asked);
        }

        int glyphAt(int place) {
            for (int k = 0; k < glyphs.size(); k++) {
                if (glyphs.get(k).place == place) {
                    return k;
                }
            }
            return -1;
        }

        int width() {
            return glyphs.stream().mapToInt(Glyph::wide).sum();
        }

        String orderKey() {
            StringBuilder key = new StringBuilder();
            key.append(glyphs.stream().filter(g -> g.rank == 2).findFirst().get().key());
            glyphs.forEach(g -> key.append(g.key()));
            return key.toString();
        }
    }

    private List<Drawn> drawn() {
        List<Integer> stops = stopsOf(now.text);
        List<Drawn> all = new ArrayList<>();
        for (int i = 0; i + 1 < stops.size(); i++) {
            all.add(new Drawn(i, stops.get(i), stops.get(i + 1)));
        }
        return all;
    }

    private List<Glyph> allGlyphs() {
        List<Glyph> all = new ArrayList<>();
        drawn().forEach(d -> all.addAll(d.glyphs));
        return all;
    }

    private String readBack() {
        StringBuilder all = new StringBuilder();
        List<Integer> stops = stopsOf(now.text);
        for (int i = 0; i + 1 < stops.size(); i++) {
            List<Character> letters = new ArrayList<>();
            for (char letter : now.text.substring(stops.get(i), stops.get(i + 1)).toCharArray()) {
                String shown = kind(letter) == 9 ? now.parts[letter - 'a'] : "" + letter;
                shown.chars().forEach(c -> letters.add((char) c));
            }
            letters.sort(Comparator.comparingInt(c -> {
                int kind = kind(c);
                return kind >= 5 && kind <= 11 ? kind : 0;
            }));
            letters.forEach(all::append);
        }
        return all.toString();
    }

    // ---- the calls

    int feed(int... ints) {
        if (tape.length() + 20 > 400) {
            return -3;
        }
        StringBuilder more = new StringBuilder(tape);
        for (int i : ints) {
            for (int shift = 24; shift >= 0; shift -= 8) {
                more.append((char) (i >> shift & 255));
            }
        }
        tape = more.toString();
        return tape.length();
    }

    private int told(Told next, int answer) {
        past.add(now);
        if (past.size() > 10) {
            past.remove(0);
        }
        now = next;
        return answer;
    }

    private int failed(int which, int place) {
        tape = "";
        fault = which;
        faultPlace = which == 0 ? NONE : place;
        return -30 - which;
    }

    int script(int n) {
        if (n < 0 || n > tape.length()) {
            return -3;
        }
        Row row = new Row();
        Matcher line = LINE.matcher(tape.substring(0, n));
        int from = 0;
        while (line.region(from, n).lookingAt()) {
            String word = line.group(2);
            if (word.isEmpty()) {
                if (line.end(1) < n) {
                    return failed(1, line.end(1));
                }
                break;
            }
            if (!Arrays.asList(WORDS).contains(word)) {
                return failed(2, line.start(2));
            }
            if (line.group(4).isEmpty()) {
                return failed(1, line.end(3));
            }
            if (!row.takes(word, line.group(4))) {
                return failed(3, line.start(4));
            }
            if (line.group(6).isEmpty()) {
                return failed(1, line.end(5));
            }
            from = line.end();
        }
        failed(0, 0);
        told(new Told(row.kinds, row.parts, row.ra, row.stack, row.half, row.pairs, now.text), 0);
        return count(1);
    }

    /** What the lines of a script have told so far. */
    private static final class Row {
        final int[] kinds = new int[26];
        final String[] parts = new String[26];
        final List<String> pairs = new ArrayList<>();
        final List<String> words = new ArrayList<>();
        String ra = "";
        String stack = "";
        String half = "";

        boolean takes(String word, String row) {
            boolean first = !words.contains(word);
            words.add(word);
            Set<Character> unlike = new TreeSet<>();
            row.chars().forEach(c -> unlike.add((char) c));
            boolean consonants = row.chars().allMatch(c -> kinds[c - 'a'] == 1);
            boolean none = row.chars().allMatch(c -> kinds[c - 'a'] == 0);
            boolean twice = unlike.size() < row.length();
            switch (word) {
                case "ra":
                    ra = row;
                    return first && row.length() == 1 && consonants;
                case "stack":
                    stack += row;
                    return consonants && !twice;
                case "half":
                    half += row;
                    return consonants && !twice;
                case "joins":
                    pairs.add(row);
                    return row.length() == 2 && consonants && pairs.size() <= 8
                        && pairs.indexOf(row) == pairs.size() - 1;
                case "splits":
                    if (row.length() != 3 || kinds[row.charAt(0) - 'a'] != 0) {
                        return false;
                    }
                    boolean signs = row.substring(1).chars().allMatch(c -> kinds[c - 'a'] >= 5 && kinds[c - 'a'] <= 8);
                    kinds[row.charAt(0) - 'a'] = 9;
                    parts[row.charAt(0) - 'a'] = row.substring(1);
                    return signs;
                default:
                    int[] kindOfWord = {1, 2, 3, 4, 5, 6, 7, 8, 9, 10, 11, 12, 13};
                    int kind = kindOfWord[Arrays.asList(WORDS).indexOf(word)];
                    unlike.forEach(c -> kinds[c - 'a'] = kind);
                    boolean once = kind == 3 || kind == 4 || kind == 12 || kind == 13;
                    return none && !twice && (!once || first && row.length() == 1);
            }
        }
    }

    int text(int n) {
        if (n < 0 || n > tape.length()) {
            return -3;
        }
        String text = tape.substring(0, n);
        if (n > 60) {
            failed(0, 0);
            return -4;
        }
        for (int p = 0; p < n; p++) {
            if (text.charAt(p) < 'a' || text.charAt(p) > 'z') {
                return failed(1, p);
            }
        }
        failed(0, 0);
        return told(now.withText(text), n);
    }

    int fault(int what) {
        return what == 0 ? fault : what == 1 ? faultPlace : NONE;
    }

    int insert(int at, int letter) {
        if (letter < 0 || letter > 25) {
            return -3;
        }
        if (at < 0 || at > now.text.length()) {
            return -5;
        }
        if (now.text.length() == 60) {
            return -4;
        }
        return told(now.withText(with(at, letter)), now.text.length() + 1);
    }

    private String with(int at, int letter) {
        return now.text.substring(0, at) + (char) ('a' + letter) + now.text.substring(at);
    }

    private String without(int from, int to) {
        return now.text.substring(0, from) + now.text.substring(to);
    }

    int backspace(int at) {
        if (at <= 0 || at > now.text.length()) {
            return -5;
        }
        return told(now.withText(without(at - 1, at)), now.text.charAt(at - 1) - 'a');
    }

    int delete(int at) {
        if (!stopsOf(now.text).contains(at) || at == now.text.length()) {
            return -5;
        }
        int to = clusterEnd(now.text, at);
        return told(now.withText(without(at, to)), to - at);
    }

    int erase() {
        return told(now.withText(""), now.text.length());
    }

    int order() {
        String back = readBack();
        return back.length() > 60 ? -4 : told(now.withText(back), back.length());
    }

    int letter(int letter, int what) {
        if (letter < 0 || letter > 25 || what < 0 || what > 5) {
            return -2;
        }
        String name = "" + (char) ('a' + letter);
        switch (what) {
            case 0: return now.kinds[letter];
            case 1: return now.ra.equals(name) ? 1 : 0;
            case 2: return now.stack.contains(name) ? 1 : 0;
            case 3: return now.half.contains(name) ? 1 : 0;
            default: return now.parts[letter] == null ? NONE : now.parts[letter].charAt(what - 4) - 'a';
        }
    }

    int joins(int a, int b) {
        if (a < 0 || a > 25 || b < 0 || b > 25) {
            return -2;
        }
        return now.pairs.contains("" + (char) ('a' + a) + (char) ('a' + b)) ? 1 : 0;
    }

    int at(int place) {
        return place < 0 ? -3 : place < now.text.length() ? now.text.charAt(place) - 'a' : NONE;
    }

    int clusters() {
        return drawn().size();
    }

    int cluster(int i, int what) {
        List<Drawn> all = drawn();
        if (i < 0 || i >= all.size() || what < 0 || what > 10) {
            return -2;
        }
        Drawn d = all.get(i);
        int first = kindAt(now.text, d.from);
        int sort = first == 1 ? 0 : first == 2 ? 1 : isBroken(now.text, d.from) ? 2 : 3;
        int[] facts = {d.from, d.to - d.from, sort, d.dead ? 1 : 0, d.chain.size(),
            sort == 0 ? d.chain.get(d.base) : sort == 2 ? NONE : d.from, d.reph ? 1 : 0,
            sort == 0 ? d.chain.size() - d.base - 1 : 0, d.seconds.size(), d.glyphs.size(), d.width()};
        return facts[what];
    }

    int of(int place) {
        if (place < 0) {
            return -3;
        }
        return (int) drawn().stream().filter(d -> d.from <= place && place < d.to).findFirst()
            .map(d -> d.cluster).orElse(NONE);
    }

    int broken(int i) {
        if (i < NONE) {
            return -3;
        }
        List<Integer> broken = drawn().stream().filter(d -> isBroken(now.text, d.from)).map(d -> d.cluster).toList();
        return i == NONE ? broken.size() : i < broken.size() ? broken.get(i) : NONE;
    }

    boolean canBeTried() {
        return now.text.length() <= MOST_TRIED;
    }

    private List<Integer> out() {
        if (tried != now) {
            tried = now;
            triedOut = tryOut();
        }
        return triedOut;
    }

    /** By numbers that tell in their bits which letters stay: the first place is the highest bit. */
    private List<Integer> tryOut() {
        int n = now.text.length();
        List<Integer> best = null;
        for (int stay = 0; stay < 1 << n; stay++) {
            List<Integer> out = new ArrayList<>();
            StringBuilder left = new StringBuilder();
            for (int p = 0; p < n; p++) {
                if ((stay >> n - 1 - p & 1) == 1) {
                    left.append(now.text.charAt(p));
                } else {
                    out.add(p);
                }
            }
            // Rising numbers: of like many out, the earliest out come first.
            if ((best == null || out.size() < best.size()) && brokenOf(left.toString()) == 0) {
                best = out;
            }
        }
        return best;
    }

    int mend(int i) {
        if (i < NONE) {
            return -3;
        }
        List<Integer> out = out();
        return i == NONE ? out.size() : i < out.size() ? out.get(i) : NONE;
    }

    int may(int at) {
        if (at < 0 || at > now.text.length()) {
            return -5;
        }
        int bits = 0;
        for (int letter = 0; letter < 26; letter++) {
            bits |= brokenOf(with(at, letter)) <= brokenOf(now.text) ? 1 << letter : 0;
        }
        return bits;
    }

    int mended() {
        StringBuilder left = new StringBuilder(now.text);
        List<Integer> out = out();
        for (int i = out.size() - 1; i >= 0; i--) {
            left.deleteCharAt(out.get(i));
        }
        return told(now.withText(left.toString()), left.length());
    }

    int glyphs() {
        return allGlyphs().size();
    }

    int glyph(int k, int what) {
        List<Glyph> all = allGlyphs();
        if (k < 0 || k >= all.size() || what < 0 || what > 6) {
            return -2;
        }
        Glyph g = all.get(k);
        int[] letters = {g.letters.isEmpty() ? NONE : g.letters.charAt(0) - 'a',
            g.letters.length() < 2 ? NONE : g.letters.charAt(1) - 'a'};
        return new int[] {g.form, letters[0], letters[1], g.place, g.cluster, g.rank, g.wide}[what];
    }

    int shown(int place) {
        if (place < 0) {
            return -3;
        }
        int ahead = 0;
        for (Drawn d : drawn()) {
            if (d.from <= place && place < d.to) {
                return ahead + d.shownBy(place);
            }
            ahead += d.glyphs.size();
        }
        return NONE;
    }

    int back(int i) {
        String back = readBack();
        if (i < NONE) {
            return -3;
        }
        return i == NONE ? back.length() : i < back.length() ? back.charAt(i) - 'a' : NONE;
    }

    int isOrdered() {
        return readBack().equals(now.text) ? 1 : 0;
    }

    int stops() {
        return stopsOf(now.text).size();
    }

    int stop(int i) {
        List<Integer> stops = stopsOf(now.text);
        return i < 0 ? -3 : i < stops.size() ? stops.get(i) : NONE;
    }

    int next(int at, int by) {
        if (Math.abs((long) by) != 1) {
            return -3;
        }
        if (at < 0 || at > now.text.length()) {
            return -5;
        }
        TreeSet<Integer> stops = new TreeSet<>(stopsOf(now.text));
        Integer next = by == 1 ? stops.higher(at) : stops.lower(at);
        return next == null ? NONE : next;
    }

    int x(int at) {
        if (!stopsOf(now.text).contains(at)) {
            return -5;
        }
        return drawn().stream().filter(d -> d.to <= at).mapToInt(Drawn::width).sum();
    }

    int hit(int x) {
        if (x < 0 || x > 999) {
            return -3;
        }
        return stopsOf(now.text).stream().min(Comparator.comparingInt(at -> Math.abs(x(at) - x))).get();
    }

    private List<Integer> greedy(int w) {
        List<Integer> ends = new ArrayList<>();
        int on = 0;
        for (Drawn d : drawn()) {
            if (d.width() > w) {
                return null;
            }
            if (!ends.isEmpty() && on + d.width() <= w) {
                ends.remove(ends.size() - 1);
                on += d.width();
            } else {
                on = d.width();
            }
            ends.add(d.to);
        }
        return ends;
    }

    private record Broken(int squares, List<Integer> ends) {
        boolean isBetter(Broken other) {
            if (squares != other.squares) {
                return squares < other.squares;
            }
            for (int i = 0; i < Math.min(ends.size(), other.ends.size()); i++) {
                if (!ends.get(i).equals(other.ends.get(i))) {
                    return ends.get(i) > other.ends.get(i);
                }
            }
            return false;
        }
    }

    private Broken even(int w, int from, List<Drawn> all, Broken[] known) {
        if (from == all.size()) {
            return new Broken(0, List.of());
        }
        if (known[from] != null) {
            return known[from];
        }
        Broken best = null;
        int wide = 0;
        for (int to = from; to < all.size(); to++) {
            wide += all.get(to).width();
            if (wide > w) {
                break;
            }
            Broken rest = even(w, to + 1, all, known);
            if (rest != null) {
                List<Integer> ends = new ArrayList<>(List.of(all.get(to).to));
                ends.addAll(rest.ends);
                int left = to + 1 == all.size() ? 0 : w - wide;
                Broken some = new Broken(left * left + rest.squares, ends);
                best = best == null || some.isBetter(best) ? some : best;
            }
        }
        known[from] = best;
        return best;
    }

    private Broken even0(int w) {
        // With one too wide all would be tried in vain.
        return greedy(w) == null ? null : even(w, 0, drawn(), new Broken[61]);
    }

    int lines(int w) {
        if (w < 1 || w > 200) {
            return -3;
        }
        List<Integer> ends = greedy(w);
        return ends == null ? NONE : ends.size();
    }

    int lineEnd(int w, int i) {
        if (w < 1 || w > 200 || i < 0) {
            return -3;
        }
        List<Integer> ends = greedy(w);
        return ends == null || i >= ends.size() ? NONE : ends.get(i);
    }

    int even(int w) {
        if (w < 1 || w > 200) {
            return -3;
        }
        Broken best = even0(w);
        return best == null ? NONE : best.squares;
    }

    int evenEnd(int w, int i) {
        if (w < 1 || w > 200 || i < 0) {
            return -3;
        }
        Broken best = even0(w);
        return best == null || i >= best.ends.size() ? NONE : best.ends.get(i);
    }

    int narrowest(int n) {
        if (n < 1 || n > 60) {
            return -3;
        }
        for (int w = 1; w <= 200; w++) {
            if (lines(w) >= 1 && lines(w) <= n) {
                return w;
            }
        }
        return NONE;
    }

    int find(int n, int from) {
        if (n < 0 || n > tape.length()) {
            return -3;
        }
        if (from < 0 || from > now.text.length()) {
            return -5;
        }
        String what = tape.substring(0, n);
        tape = "";
        List<Integer> stops = stopsOf(now.text);
        for (int p : stops) {
            if (p >= from && n > 0 && now.text.startsWith(what, p) && stops.contains(p + n)) {
                return p;
            }
        }
        return NONE;
    }

    int compare(int i, int j) {
        List<Drawn> all = drawn();
        if (i < 0 || i >= all.size() || j < 0 || j >= all.size()) {
            return -2;
        }
        int order = all.get(i).orderKey().compareTo(all.get(j).orderKey());
        return order == 0 ? 0 : order < 0 ? 1 : 2;
    }

    int alike(int i, int j) {
        int order = compare(i, j);
        return order < 0 ? order : order == 0 ? 1 : 0;
    }

    int kinds() {
        return (int) drawn().stream().map(Drawn::orderKey).distinct().count();
    }

    int ranked(int i) {
        if (i < 0) {
            return -3;
        }
        List<Drawn> all = new ArrayList<>(drawn());
        all.sort(Comparator.comparing(Drawn::orderKey));
        return i < all.size() ? all.get(i).cluster : NONE;
    }

    int undo(int n) {
        if (n < 1 || n > past.size()) {
            return -3;
        }
        for (int i = 0; i < n; i++) {
            now = past.remove(past.size() - 1);
        }
        return past.size();
    }

    int image(int i) {
        if (i < 0 || i > 1) {
            return -2;
        }
        images[i] = now;
        return 0;
    }

    int restore(int i) {
        if (i < 0 || i > 1) {
            return -2;
        }
        if (images[i] == null) {
            return -6;
        }
        now = images[i];
        past.clear();
        return 0;
    }

    int count(int what) {
        switch (what) {
            case 0: return now.text.length();
            case 1: return (int) Arrays.stream(now.kinds).filter(k -> k != 0).count();
            case 2: return now.pairs.size();
            case 3: return tape.length();
            case 4: return past.size();
            case 5: return drawn().stream().mapToInt(Drawn::width).sum();
            case 6: return (int) allGlyphs().stream().filter(g -> g.form == 10).count();
            case 7: return (int) allGlyphs().stream().filter(g -> g.form == 8).count();
            default: return NONE;
        }
    }
}
