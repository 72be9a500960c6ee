/** The boundary cases that "Terms" names (a script's text, clusters, order), sentence by sentence. */
public final class EdgesOfTermsTest {
    private static final int NONE = StackedScript.NONE;
    private static final String ALL = "abcdefghijklmnopqrstuvwxyz";
    private static final String[] MANY = {"consonants", "vowels", "before", "above", "below", "behind", "marks", "tails"};
    private static final int[] MANY_KINDS = {1, 2, 5, 6, 7, 8, 10, 11};
    private static final String[] ONCE = {"virama", "nukta", "joiner", "breaker"};
    private static final int[] ONCE_KINDS = {3, 4, 12, 13};

    private EdgesOfTermsTest() {
    }

    public static void main(String[] args) {
        oneLetterAndMore();
        oneLetterOnce();
        raOnce();
        stackAndHalf();
        joins();
        eightPairs();
        splits();
        partsOfKinds();
        wordsAndRows();
        blanks();
        faultAtThePlace();
        faultAtTheEnd();
        faultTheFirst();
        faultTheLeast();
        emptyScript();
        nothingElseChanges();
        sixtyLetters();
        asLongAsCanBe();
        chains();
        reph();
        bases();
        joined();
        undone();
        images();
        Check.end();
    }

    private static void well(String text, int letters) {
        StackedScript s = new StackedScript();
        Check.due("\"" + text + "\"", Check.script(s, text), letters);
        Check.due("no fault in \"" + text + "\"", s.fault(0), 0);
        Check.due("no place in \"" + text + "\"", s.fault(1), NONE);
        Check.due("kinds told by \"" + text + "\"", s.count(1), letters);
    }

    private static void faulty(String text, int fault, int place) {
        StackedScript s = new StackedScript();
        Check.due("\"" + text + "\"", Check.script(s, text), -30 - fault);
        Check.due("fault of \"" + text + "\"", s.fault(0), fault);
        Check.due("place of \"" + text + "\"", s.fault(1), place);
        Check.due("kinds told by \"" + text + "\"", s.count(1), 0);
        Check.due("tape of \"" + text + "\"", s.count(3), 0);
        Check.due("undoable of \"" + text + "\"", s.count(4), 0);
    }

    // "1 LETTER and more"; "one that has a KIND already (or is twice in it)".
    private static void oneLetterAndMore() {
        for (int i = 0; i < MANY.length; i++) {
            String word = MANY[i];
            int row = word.length() + 1;
            well(word + " a;", 1);
            well(word + " z;", 1);
            well(word + " " + ALL + ";", 26);
            well(word + " a;" + word + " b;", 2);
            well("virama h;" + word + " ab;" + word + " cd;", 5);
            faulty(word + " aa;", 3, row);
            faulty(word + " " + ALL + "a;", 3, row);
            faulty(word + " abca;", 3, row);
            faulty(word + " ab;" + word + " cb;", 3, 2 * row + 3);
            faulty("virama a;" + word + " ba;", 3, 9 + row);
            faulty(word + ";", 1, row - 1);
            faulty(word + " ;", 1, row);
            faulty(word + " a", 1, row + 1);
            StackedScript s = new StackedScript();
            Check.script(s, word + " az;");
            Check.due("kind of a by " + word, s.letter(0, 0), MANY_KINDS[i]);
            Check.due("kind of z by " + word, s.letter(25, 0), MANY_KINDS[i]);
            Check.due("kind of b by " + word, s.letter(1, 0), 0);
        }
    }

    // "virama, nukta, joiner, breaker, ...: one LETTER, once each"; "too many or too few, told once already".
    private static void oneLetterOnce() {
        for (int i = 0; i < ONCE.length; i++) {
            String word = ONCE[i];
            int row = word.length() + 1;
            well(word + " a;", 1);
            well(word + " z;", 1);
            faulty(word + " ab;", 3, row);
            faulty(word + " aa;", 3, row);
            faulty(word + " a;" + word + " b;", 3, 2 * row + 2);
            faulty(word + " a;" + word + " a;", 3, 2 * row + 2);
            faulty("marks a;" + word + " a;", 3, 8 + row);
            faulty(word + ";", 1, row - 1);
            faulty(word + " ;", 1, row);
            StackedScript s = new StackedScript();
            Check.script(s, word + " q;");
            Check.due("kind by " + word, s.letter('q' - 'a', 0), ONCE_KINDS[i]);
            Check.due("once a text by " + word, Check.script(s, word + " r;"), 1);
            Check.due("the kind anew by " + word, s.letter('r' - 'a', 0), ONCE_KINDS[i]);
            Check.due("the kind of old by " + word, s.letter('q' - 'a', 0), 0);
        }
        well("virama a;nukta b;joiner c;breaker d;", 4);
    }

    // "ra (a consonant told ahead): one LETTER, once each".
    private static void raOnce() {
        well("consonants r;ra r;", 1);
        faulty("ra r;consonants r;", 3, 3);
        faulty("consonants rs;ra rs;", 3, 17);
        faulty("consonants rs;ra rr;", 3, 17);
        faulty("consonants rs;ra r;ra s;", 3, 22);
        faulty("consonants rs;ra r;ra r;", 3, 22);
        faulty("consonants rs;ra q;", 3, 17);
        faulty("consonants rs;ra;", 1, 16);
        for (int i = 1; i < MANY.length; i++) {
            faulty(MANY[i] + " r;ra r;", 3, MANY[i].length() + 6);
        }
        StackedScript s = new StackedScript();
        Check.script(s, "consonants rs;ra r;");
        Check.due("r", s.letter('r' - 'a', 1), 1);
        Check.due("s", s.letter('s' - 'a', 1), 0);
        Check.due("once a text", Check.script(s, "consonants rs;ra s;"), 2);
        Check.due("s then", s.letter('s' - 'a', 1), 1);
        Check.due("r then", s.letter('r' - 'a', 1), 0);
    }

    // "stack, half: consonants told ahead (none twice in a row; it doesn't matter whether an earlier LINE told it)".
    private static void stackAndHalf() {
        for (String word : new String[] {"stack", "half"}) {
            int what = word.equals("stack") ? 2 : 3;
            int row = 15 + word.length();
            well("consonants kg;" + word + " k;", 2);
            well("consonants kg;" + word + " kg;", 2);
            well("consonants kg;" + word + " k;" + word + " k;", 2);
            well("consonants kg;" + word + " k;" + word + " gk;", 2);
            well("consonants " + ALL + ";" + word + " " + ALL + ";", 26);
            faulty("consonants kg;" + word + " kk;", 3, row);
            faulty("consonants kg;" + word + " kgk;", 3, row);
            faulty("consonants kg;" + word + " ks;", 3, row);
            faulty(word + " k;consonants k;", 3, word.length() + 1);
            faulty("vowels kgabcd;" + word + " k;", 3, row);
            faulty("consonants kg;" + word + ";", 1, row - 1);
            StackedScript s = new StackedScript();
            Check.script(s, "consonants kgs;" + word + " k;" + word + " gk;");
            Check.due(word + " k", s.letter('k' - 'a', what), 1);
            Check.due(word + " g", s.letter('g' - 'a', what), 1);
            Check.due(word + " s", s.letter('s' - 'a', what), 0);
            Check.due("no more than " + word, s.letter('k' - 'a', 5 - what), 0);
        }
    }

    // "joins: two such (alike or not; no pair twice)".
    private static void joins() {
        well("consonants kg;joins kg;", 2);
        well("consonants kg;joins kk;", 2);
        well("consonants kg;joins kg;joins gk;joins gg;joins kk;", 2);
        faulty("consonants kg;joins k;", 3, 20);
        faulty("consonants kg;joins kgk;", 3, 20);
        faulty("consonants kg;joins kg;joins kg;", 3, 29);
        faulty("consonants kg;joins kk;joins kk;", 3, 29);
        faulty("consonants k;joins kg;consonants g;", 3, 19);
        faulty("consonants k;joins gk;consonants g;", 3, 19);
        faulty("consonants k;vowels e;joins ke;", 3, 28);
        faulty("consonants k;vowels e;joins ek;", 3, 28);
        faulty("consonants k;joins;", 1, 18);
        StackedScript s = new StackedScript();
        Check.script(s, "consonants kg;joins kg;joins gg;");
        Check.due("kg", s.joins(10, 6), 1);
        Check.due("gg", s.joins(6, 6), 1);
        Check.due("gk", s.joins(6, 10), 0);
        Check.due("kk", s.joins(10, 10), 0);
    }

    // "(8 pairs at most)"; "a 9th pair (at the row)".
    private static void eightPairs() {
        StringBuilder text = new StringBuilder("consonants abc;");
        String[] pairs = {"aa", "ab", "ac", "ba", "bb", "bc", "ca", "cb"};
        for (int i = 0; i < pairs.length; i++) {
            text.append("joins ").append(pairs[i]).append(';');
            StackedScript s = new StackedScript();
            Check.due("pairs", Check.script(s, text.toString()), 3);
            Check.due("how many", s.count(2), i + 1);
        }
        faulty(text + "joins cc;", 3, text.length() + 6);
        faulty(text + "joins ab;", 3, text.length() + 6);
        well(text + "stack a;", 3);
        StackedScript s = Check.told(text.toString(), "");
        Check.due("eight anew", Check.script(s, text.toString()), 3);
        Check.due("eight", s.count(2), 8);
    }

    // "splits: three LETTERS, the first split, the others its PARTS (of KINDS 5 to 8, told ahead; they may be alike)".
    private static void splits() {
        well("before i;splits oii;", 2);
        well("before i;above u;splits oiu;", 3);
        well("before i;splits oii;splits pii;", 3);
        faulty("before i;splits o;", 3, 16);
        faulty("before i;splits oi;", 3, 16);
        faulty("before i;splits oiii;", 3, 16);
        faulty("before i;splits oiip;", 3, 16);
        faulty("before i;splits iii;", 3, 16);
        faulty("before i;splits ooi;", 3, 16);
        faulty("before i;splits oio;", 3, 16);
        faulty("before i;splits oiu;above u;", 3, 16);
        faulty("before i;splits oui;above u;", 3, 16);
        faulty("splits oii;before i;", 3, 7);
        faulty("before i;splits oii;splits oii;", 3, 27);
        faulty("before i;splits oii;splits poi;", 3, 27);
        faulty("before i;splits oii;splits pio;", 3, 27);
        faulty("before i;splits oii;marks o;", 3, 26);
        faulty("before i;marks o;splits oii;", 3, 24);
        faulty("before i;splits;", 1, 15);
        StackedScript s = new StackedScript();
        Check.script(s, "before i;above u;splits oiu;splits puu;");
        Check.row("o", what -> s.letter('o' - 'a', what), 9, 0, 0, 0, 'i' - 'a', 'u' - 'a');
        Check.row("p", what -> s.letter('p' - 'a', what), 9, 0, 0, 0, 'u' - 'a', 'u' - 'a');
        Check.row("i", what -> s.letter('i' - 'a', what), 5, 0, 0, 0, NONE, NONE);
    }

    private static void partsOfKinds() {
        for (int i = 0; i < MANY.length; i++) {
            boolean isPart = MANY_KINDS[i] >= 5 && MANY_KINDS[i] <= 8;
            String ahead = "above u;" + MANY[i] + " p;";
            for (String row : new String[] {"opu", "oup", "opp"}) {
                if (isPart) {
                    well(ahead + "splits " + row + ";", 3);
                } else {
                    faulty(ahead + "splits " + row + ";", 3, ahead.length() + 7);
                }
            }
        }
        for (String word : ONCE) {
            String ahead = "above u;" + word + " p;";
            faulty(ahead + "splits opu;", 3, ahead.length() + 7);
            faulty(ahead + "splits oup;", 3, ahead.length() + 7);
        }
    }

    // "Words and rows go on as long as a to z go on"; "2 a word that is none of these (at it)".
    private static void wordsAndRows() {
        String[] words = {"consonants", "vowels", "virama", "nukta", "before", "above", "below", "behind", "splits",
            "marks", "tails", "joiner", "breaker", "ra", "stack", "half", "joins"};
        for (String word : words) {
            faulty(word.substring(1) + " k;", 2, 0);
            faulty(word.substring(0, word.length() - 1) + " k;", 2, 0);
            faulty(word + "s k;", 2, 0);
            faulty("a" + word + " k;", 2, 0);
            faulty(word + "k;", 2, 0);
            faulty("marks m;" + word + "z", 2, 8);
            for (int k = 0; k < word.length(); k++) {
                char other = word.charAt(k) == 'a' ? 'z' : (char) (word.charAt(k) - 1);
                faulty(word.substring(0, k) + other + word.substring(k + 1) + " k;", 2, 0);
            }
        }
        faulty("a", 2, 0);
        faulty("z k;", 2, 0);
        faulty(ALL + ALL + " k;", 2, 0);
    }

    // "blanks (32) may stand between all".
    private static void blanks() {
        well("marks m;tails z;", 2);
        well(" marks m;", 1);
        well("marks   m;", 1);
        well("marks m   ;", 1);
        well("marks m;   tails z;", 2);
        well("marks m;   ", 1);
        well(" marks m ; tails z ; ", 2);
        well(" ", 0);
        well(Check.times(" ", 400), 0);
        well(Check.times(" ", 386) + "consonants ab;", 2);
        faulty("mar ks m;", 2, 0);
        faulty("marks m m;", 1, 8);
        for (int b = 0; b < 256; b++) {
            boolean isLetter = b >= 'a' && b <= 'z';
            if (isLetter || b == ' ' || b == ';') {
                continue;
            }
            char sign = (char) b;
            faulty(sign + "marks m;", 1, 0);
            faulty("marks" + sign + "m;", 1, 5);
            faulty("marks " + sign + "m;", 1, 6);
            faulty("marks m" + sign + ";", 1, 7);
            faulty("marks m;" + sign, 1, 8);
        }
    }

    // "1 what can't stand there (at it ...)".
    private static void faultAtThePlace() {
        faulty(";", 1, 0);
        faulty(" ;", 1, 1);
        faulty("marks;", 1, 5);
        faulty("marks ;", 1, 6);
        faulty("marks  ;m", 1, 7);
        faulty("marks m;;", 1, 8);
        faulty("marks m; ;", 1, 9);
        faulty("marks m tails z;", 1, 8);
        faulty("Marks m;", 1, 0);
        faulty("marks M;", 1, 6);
        faulty("marks mM;", 1, 7);
        faulty("marks m,", 1, 7);
        faulty("marks m;1", 1, 8);
    }

    // "(...; the end: how many bytes there are)": of the text, which needn't be the whole tape.
    private static void faultAtTheEnd() {
        faulty("marks", 1, 5);
        faulty("marks ", 1, 6);
        faulty("marks   ", 1, 8);
        faulty("marks m", 1, 7);
        faulty("marks m  ", 1, 9);
        faulty("marks m;tails", 1, 13);
        for (int n = 5; n <= 7; n++) {
            StackedScript s = new StackedScript();
            Check.feed(s, "marks m;tails z;");
            Check.due("cut at " + n, s.script(n), -31);
            Check.due("the place, cut at " + n, s.fault(1), n);
        }
        StackedScript s = new StackedScript();
        Check.feed(s, Check.times(" ", 394) + "marks ");
        Check.due("at the end of a full tape", s.script(400), -31);
        Check.due("its place", s.fault(1), 400);
    }

    // "the first along the text": a word, a row ahead of what stands behind it.
    private static void faultTheFirst() {
        faulty("foo 1", 2, 0);
        faulty("foo1", 2, 0);
        faulty("foo", 2, 0);
        faulty("foo;", 2, 0);
        faulty(" foo aa;", 2, 1);
        faulty("marks mm1", 3, 6);
        faulty("marks mm", 3, 6);
        faulty("marks mm tails", 3, 6);
        faulty("virama hk foo", 3, 7);
        faulty("marks m1foo", 1, 7);
        faulty("marks m foo mm;", 1, 8);
        faulty("marks m;foo k;virama hh;", 2, 8);
        faulty("marks m;virama hh;foo k;", 3, 15);
        faulty("1marks", 1, 0);
    }

    // "of one place the least": where a row should be and isn't, it is told too few as well.
    private static void faultTheLeast() {
        faulty("virama ;", 1, 7);
        faulty("virama h;virama ;", 1, 16);
        faulty("virama h;virama", 1, 15);
        faulty("virama h;virama 1", 1, 16);
        faulty("joins ;", 1, 6);
        faulty("splits", 1, 6);
        faulty("ra", 1, 2);
        faulty("ra 1", 1, 3);
    }

    // "An empty text: no KINDS at all."
    private static void emptyScript() {
        StackedScript s = Start.some();
        Check.due("empty", s.script(0), 0);
        for (int letter = 0; letter < 26; letter++) {
            int asked = letter;
            Check.row("letter " + letter, what -> s.letter(asked, what), 0, 0, 0, 0, NONE, NONE);
        }
        Check.due("no pairs", s.count(2), 0);
        Check.due("ks", s.joins(10, 18), 0);
        Check.due("undone", s.undo(1), 5);
        Check.due("kinds again", s.count(1), 17);
        Check.due("blanks alone", Check.script(s, "   "), 0);
        Check.due("no kinds", s.count(1), 0);
    }

    // "-30 less the FAULT: a text (THE TAPE is empty then; nothing else changes)": what the lines ahead of it told, too.
    private static void nothingElseChanges() {
        String most = "consonants abcd;virama e;nukta f;before g;ra a;stack ab;half c;joins ab;splits hgg;";
        Whole.emptied("a fault behind lines", Start.taped(Start::some, most + "foo"), s -> s.script(most.length() + 3),
            -32, 2, most.length());
        Whole.emptied("within lines", Start.taped(Start::full, most), s -> s.script(most.length() - 1), -31, 1,
            most.length() - 1);
        Whole.emptied("in a row", Start.taped(Start::noText, most + "half bcb;"), s -> s.script(most.length() + 9),
            -33, 3, most.length() + 5);
        StackedScript s = Start.taped(Start::some, most + "foo").get();
        s.script(most.length() + 3);
        Check.due("the next one begins anew", Check.script(s, "consonants ae;virama h;"), 3);
        Check.due("no ra of it", s.letter(0, 1), 0);
        Check.due("no pairs of it", s.count(2), 0);
    }

    // "THE TEXT: LETTERS, 60 at most (none at first), at places from 0 on."
    private static void sixtyLetters() {
        StackedScript s = new StackedScript();
        for (int i = 0; i < 60; i++) {
            Check.due("letter " + i, s.insert(i, i % 26), i + 1);
        }
        Check.due("one more", s.insert(60, 0), -4);
        Check.row("all of them", s::at, 0, 1, 2, 3, 4, 5, 6, 7, 8, 9, 10, 11, 12, 13, 14, 15, 16, 17, 18, 19, 20, 21, 22,
            23, 24, 25, 0, 1, 2, 3, 4, 5, 6, 7, 8, 9, 10, 11, 12, 13, 14, 15, 16, 17, 18, 19, 20, 21, 22, 23, 24, 25, 0,
            1, 2, 3, 4, 5, 6, 7, NONE);
        Check.due("clusters", s.clusters(), 60);
    }

    /** How long the first cluster is. */
    private static void first(String text, int letters) {
        Check.due("first of " + text, Check.told(text).cluster(0, 1), letters);
    }

    // "each as long as can be": a letter of each kind behind all that a cluster can be so far.
    private static void asLongAsCanBe() {
        String kinds = "kehniudaomzjbx";
        String[] begins = {"k", "kn", "kh", "knh", "khj", "khb", "khk", "khjk", "ki", "ko", "km", "kz", "kim", "khm",
            "khjm", "e", "en", "em", "enm", "h", "hj", "hm", "hjm", "n", "nh", "nhj", "ni", "nm", "i", "o", "ii", "im",
            "m", "z", "x", "j", "b"};
        String[] goesOn = {"hniudaomz", "hiudaomz", "kmzjb", "kmzjb", "kmz", "kmz", "hniudaomz", "hniudaomz", "iudaomz",
            "iudaomz", "mz", "mz", "mz", "mz", "mz", "nmz", "mz", "mz", "mz", "mzjb", "mz", "mz", "mz", "hiudaomz",
            "mzjb", "mz", "iudaomz", "mz", "iudaomz", "iudaomz", "iudaomz", "mz", "mz", "mz", "", "", ""};
        for (int i = 0; i < begins.length; i++) {
            first(begins[i], begins[i].length());
            for (char next : kinds.toCharArray()) {
                boolean on = goesOn[i].indexOf(next) >= 0;
                first(begins[i] + next, begins[i].length() + (on ? 1 : 0));
            }
        }
        // What looks like a chain's next link but isn't ends the cluster with what came.
        first("khjjk", 3);
        first("khe", 2);
        first("khnk", 2);
        first("kimi", 3);
        first("kzmzmi", 5);
    }

    // The longest chain, the longest end.
    private static void chains() {
        StackedScript s = Check.told(Check.times("kh", 30));
        Check.row("thirty, dead", what -> s.cluster(0, what), 0, 60, 0, 1, 30, 58, 0, 0, 0, 31, 62);
        StackedScript t = Check.told(Check.times("th", 29) + "tm");
        Check.row("thirty stacked", what -> t.cluster(0, what), 0, 60, 0, 0, 30, 0, 0, 29, 0, 31, 4);
        StackedScript one = Check.told("k" + Check.times("o", 59));
        Check.row("fifty-nine signs", what -> one.cluster(0, what), 0, 60, 0, 0, 1, 0, 0, 0, 0, 119, 240);
        StackedScript pairs = Check.told(Check.times("khsh", 15));
        Check.row("fifteen pairs", what -> pairs.cluster(0, what), 0, 60, 0, 1, 30, 58, 0, 0, 15, 30, 75);
        StackedScript broken = Check.told(Check.times("z", 60));
        Check.row("sixty tails", what -> broken.cluster(0, what), 0, 60, 2, 0, 0, NONE, 0, 0, 0, 61, 63);
    }

    private static void fact(String script, String text, int what, int want) {
        Check.due("fact " + what + " of " + text, Check.told(script, text).cluster(0, what), want);
    }

    // "REPH: the first, if it is RA without nukta and another CONSONANT follows, no j being behind its v."
    private static void reph() {
        String[] texts = {"r", "rh", "rhj", "rhk", "rnhk", "rhjk", "rhbk", "rhkn", "rhkhjs", "khrhk", "rhr", "rhe", "rk"};
        int[] has = {0, 0, 0, 1, 0, 0, 0, 1, 1, 0, 1, 0, 0};
        for (int i = 0; i < texts.length; i++) {
            fact(Check.SCRIPT, texts[i], 6, has[i]);
        }
        fact("consonants rk;virama h;", "rhk", 6, 0);
        fact("consonants rk;virama h;ra k;", "rhk", 6, 0);
        fact("consonants rk;virama h;ra k;", "khr", 6, 1);
    }

    // "the last CONSONANT (not REPH) that doesn't STACK, or ahead of which a j is; without such a one the first that isn't
    // REPH."
    private static void bases() {
        fact(Check.SCRIPT, "tht", 5, 0);
        fact(Check.SCRIPT, "rhtht", 5, 2);
        fact(Check.SCRIPT, "rht", 5, 2);
        fact(Check.SCRIPT, "thjt", 5, 3);
        fact(Check.SCRIPT, "thbtht", 5, 3);
        fact(Check.SCRIPT, "thjtht", 7, 1);
        fact(Check.SCRIPT, "khtht", 5, 0);
        fact(Check.SCRIPT, "khtht", 7, 2);
        fact(Check.SCRIPT, "thkht", 5, 2);
        fact(Check.SCRIPT, "rhthk", 5, 4);
        fact("consonants rt;virama h;ra r;stack rt;", "rhrht", 5, 2);
        fact("consonants rt;virama h;ra r;stack t;", "rht", 5, 2);
        fact("consonants r;virama h;ra r;", "rh", 5, 0);
    }

    // "a CONSONANT and the next one (BASE at most) are JOINED, if they JOIN, no j is between, the first one has no
    // nukta, and it isn't JOINED to the one ahead." "(not REPH)"
    private static void joined() {
        String all = "consonants krt;virama h;nukta n;joiner j;breaker b;ra r;stack t;joins kk;joins kt;joins rk;joins tk;";
        String[] texts = {"k", "kh", "khk", "knhk", "khkn", "khjk", "khbk", "khkhk", "khkhkhk", "kht", "khthk", "rhk",
            "rhkhk", "khrhk", "thk", "kk"};
        int[] pairs = {0, 0, 1, 0, 1, 0, 0, 1, 2, 0, 1, 0, 1, 1, 1, 0};
        for (int i = 0; i < texts.length; i++) {
            fact(all, texts[i], 8, pairs[i]);
        }
    }

    // "can be UNDONE each as a whole, the latest first, 10 at most (eldest are forgotten): all but THE TAPE and the FAULT."
    private static void undone() {
        StackedScript s = Start.some();
        s.order();
        s.mended();
        s.delete(0);
        s.insert(0, 0);
        s.backspace(1);
        Check.due("ten", s.count(4), 10);
        s.erase();
        Check.due("still ten", s.count(4), 10);
        Check.due("ten undone", s.undo(10), 0);
        Check.row("the eldest is forgotten", s::count, 0, 17, 1, 20, 0);
        Check.row("the fault is as it was", s::fault, 2, 9);
        Check.due("no more", s.undo(1), -3);
        Check.due("the tape is as it was", s.text(20), 20);
        Check.same("its bytes", Check.textOf(s), Start.TAPE);
    }

    // "IMAGES 0 to 1: the same (none at first); nothing can be UNDONE behind."
    private static void images() {
        StackedScript s = Start.some();
        Check.due("none at first", s.restore(0), -6);
        Check.due("image 1", s.restore(1), 0);
        Check.row("the text, the script; the tape stays", s::count, 2, 17, 1, 20, 0);
        Check.same("its letters", Check.textOf(s), "ka");
        Check.row("the fault stays", s::fault, 2, 9);
        Check.due("nothing to undo", s.undo(1), -3);
        s.insert(0, 0);
        Check.due("but what comes behind", s.undo(1), 0);
        Check.same("as the image", Check.textOf(s), "ka");
    }
}
