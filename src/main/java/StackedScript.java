public final class StackedScript {
    public static final int NONE = -1;

    private static final int NO_SUCH = -2;
    private static final int BAD_NUMBER = -3;
    private static final int TOO_MANY = -4;
    private static final int NOT_THERE = -5;
    private static final int NO_IMAGE = -6;
    private static final int FAULT_BASE = -30;

    private static final int ALPHABET = 26;
    private static final int MOST_LETTERS = 60;
    private static final int MOST_BACK = 2 * MOST_LETTERS;
    private static final int MOST_GLYPHS = 3 * MOST_LETTERS;
    private static final int MOST_BYTES = 400;
    private static final int MOST_PAIRS = 8;
    private static final int MOST_UNDONE = 10;
    private static final int IMAGES = 2;
    private static final int WIDEST_LINE = 200;
    private static final int MOST_LINES = 60;
    private static final int FARTHEST_X = 999;

    // The kinds of letters; the words of a script's text bear the same numbers.
    private static final int PLAIN = 0;
    private static final int CONSONANT = 1;
    private static final int VOWEL = 2;
    private static final int VIRAMA = 3;
    private static final int NUKTA = 4;
    private static final int BEFORE = 5;
    private static final int ABOVE = 6;
    private static final int BELOW = 7;
    private static final int BEHIND = 8;
    private static final int SPLIT = 9;
    private static final int MARK = 10;
    private static final int TAIL = 11;
    private static final int JOINER = 12;
    private static final int BREAKER = 13;
    private static final int KINDS = 14;

    // The words that tell something else than a kind.
    private static final int RA_WORD = 14;
    private static final int STACK_WORD = 15;
    private static final int HALF_WORD = 16;
    private static final int JOINS_WORD = 17;
    private static final int LAST_WORD = 17;

    private static final int WRONG_BYTE = 1;
    private static final int WRONG_WORD = 2;
    private static final int WRONG_ROW = 3;

    // What a cluster is, as cluster(i, 2) answers it.
    private static final int OF_CONSONANT = 0;
    private static final int OF_VOWEL = 1;
    private static final int OF_BROKEN = 2;
    private static final int OF_OTHER = 3;

    // What can be asked of a cluster.
    private static final int BEGIN = 0;
    private static final int LENGTH = 1;
    private static final int SORT = 2;
    private static final int DEAD = 3;
    private static final int IN_CHAIN = 4;
    private static final int BASE_PLACE = 5;
    private static final int HAS_REPH = 6;
    private static final int IN_STACK = 7;
    private static final int PAIRS = 8;
    private static final int DRAWN = 9;
    private static final int WIDTH = 10;
    private static final int CLUSTER_FACTS = 11;

    // What can be asked of a glyph.
    private static final int FORM = 0;
    private static final int FIRST = 1;
    private static final int SECOND = 2;
    private static final int PLACE = 3;
    private static final int OWNER = 4;
    private static final int RANK = 5;
    private static final int WIDE = 6;
    private static final int GLYPH_FACTS = 7;

    private static final int WHOLE = 0;
    private static final int HALF = 1;
    private static final int JOINED_WHOLE = 2;
    private static final int JOINED_HALF = 3;
    private static final int STACKED = 4;
    private static final int REPH = 5;
    private static final int SIGN = 6;
    private static final int MARKING = 7;
    private static final int VIRAMA_FORM = 8;
    private static final int NUKTA_FORM = 9;
    private static final int JOINER_FORM = 10;
    private static final int CIRCLE = 11;
    private static final int ALONE = 12;
    private static final int VOWEL_FORM = 13;

    private static final int BASE_RANK = 2;
    private static final int BELOW_RANK = 4;
    private static final int BEHIND_RANK = 8;
    private static final int TAIL_RANK = 9;

    // How far a cluster has come, told by its latest letter: all that decides
    // whether the next letter still belongs to it.
    private static final int CLOSED = 0;
    private static final int AFTER_CONSONANT = 1;
    private static final int AFTER_NUKTA = 2;
    private static final int AFTER_VIRAMA = 3;
    private static final int AFTER_JOINER = 4;
    private static final int IN_SIGNS = 5;
    private static final int IN_MARKS = 6;
    private static final int AFTER_VOWEL = 7;
    private static final int LONE_NUKTA = 8;
    private static final int LONE_VIRAMA = 9;
    private static final int STATES = 10;

    private final int[] tape = new int[MOST_BYTES];
    private int tapeSize = 0;
    private int faultFound = 0;
    private int faultPlace = NONE;
    private final State told = new State();
    private final History past = new History();
    private final Pictures pictures = new Pictures();
    private final Reader reader = new Reader();
    private final Cut cut = new Cut();
    private final Anatomy anatomy = new Anatomy();
    private final Drawing drawing = new Drawing(told, cut, anatomy);
    private final ReadBack readBack = new ReadBack(told, cut);
    private final Wrap wrap = new Wrap();
    private final Mender mender = new Mender();

    public StackedScript() {
    }

    // ---- texts

    public int feed(int a, int b, int c, int d, int e) {
        if (tapeSize + 20 > MOST_BYTES) {
            return BAD_NUMBER;
        }
        putBytes(a);
        putBytes(b);
        putBytes(c);
        putBytes(d);
        putBytes(e);
        return tapeSize;
    }

    public int script(int n) {
        if (n < 0 || n > tapeSize) {
            return BAD_NUMBER;
        }
        reader.readScript(tape, n);
        emptyTape(reader.fault, reader.faultPlace);
        if (faultFound != 0) {
            return FAULT_BASE - faultFound;
        }
        past.keep(told);
        told.script.copyFrom(reader.script);
        settle();
        return told.script.lettersTold();
    }

    public int text(int n) {
        if (n < 0 || n > tapeSize) {
            return BAD_NUMBER;
        }
        if (n > MOST_LETTERS) {
            emptyTape(0, NONE);
            return TOO_MANY;
        }
        int wrong = firstNoLetter(n);
        if (wrong != NONE) {
            emptyTape(WRONG_BYTE, wrong);
            return FAULT_BASE - WRONG_BYTE;
        }
        emptyTape(0, NONE);
        past.keep(told);
        told.become(tape, n, 'a');
        settle();
        return n;
    }

    public int fault(int what) {
        switch (what) {
            case 0:
                return faultFound;
            case 1:
                return faultPlace;
            default:
                return NONE;
        }
    }

    public int insert(int at, int letter) {
        if (!isLetter(letter)) {
            return BAD_NUMBER;
        }
        if (at < 0 || at > told.size) {
            return NOT_THERE;
        }
        if (told.size >= MOST_LETTERS) {
            return TOO_MANY;
        }
        past.keep(told);
        told.putIn(at, letter);
        settle();
        return told.size;
    }

    public int backspace(int at) {
        if (at < 1 || at > told.size) {
            return NOT_THERE;
        }
        int gone = told.letterAt(at - 1);
        past.keep(told);
        told.takeOut(at - 1, 1);
        settle();
        return gone;
    }

    public int delete(int at) {
        int i = cut.stopAt(at);
        if (i == NONE || i >= cut.size) {
            return NOT_THERE;
        }
        int gone = cut.factOf(i, LENGTH);
        past.keep(told);
        told.takeOut(at, gone);
        settle();
        return gone;
    }

    public int erase() {
        int gone = told.size;
        past.keep(told);
        told.takeOut(0, gone);
        settle();
        return gone;
    }

    public int order() {
        if (readBack.size > MOST_LETTERS) {
            return TOO_MANY;
        }
        past.keep(told);
        told.become(readBack.row, readBack.size, 0);
        settle();
        return told.size;
    }

    // ---- letters, clusters

    public int letter(int letter, int what) {
        if (!isLetter(letter)) {
            return NO_SUCH;
        }
        Script script = told.script;
        switch (what) {
            case 0:
                return script.kindOf(letter);
            case 1:
                return script.ra == letter ? 1 : 0;
            case 2:
                return hasBit(script.stacking, letter);
            case 3:
                return hasBit(script.halved, letter);
            case 4:
                return script.partOf(letter, 0);
            case 5:
                return script.partOf(letter, 1);
            default:
                return NO_SUCH;
        }
    }

    public int joins(int a, int b) {
        if (!isLetter(a) || !isLetter(b)) {
            return NO_SUCH;
        }
        return told.script.joined(a, b) ? 1 : 0;
    }

    public int at(int place) {
        if (place < 0) {
            return BAD_NUMBER;
        }
        return told.letterAt(place);
    }

    public int clusters() {
        return cut.size;
    }

    public int cluster(int i, int what) {
        if (!cut.has(i)) {
            return NO_SUCH;
        }
        if (what == DRAWN) {
            return drawing.glyphsOf(i);
        }
        if (what == WIDTH) {
            return drawing.widthOf(i);
        }
        return what < 0 || what >= CLUSTER_FACTS ? NO_SUCH : cut.factOf(i, what);
    }

    public int of(int place) {
        if (place < 0) {
            return BAD_NUMBER;
        }
        return cut.ownerOf(place);
    }

    public int broken(int i) {
        if (i < NONE) {
            return BAD_NUMBER;
        }
        return i == NONE ? cut.brokenWith(NONE, PLAIN) : cut.brokenAt(i);
    }

    public int mend(int i) {
        if (i < NONE) {
            return BAD_NUMBER;
        }
        mender.choose(cut);
        if (i == NONE) {
            return mender.size;
        }
        return i < mender.size ? mender.out[i] : NONE;
    }

    public int may(int at) {
        if (at < 0 || at > told.size) {
            return NOT_THERE;
        }
        int most = cut.brokenWith(NONE, PLAIN);
        int kinds = 0;
        for (int kind = 0; kind < KINDS; kind++) {
            if (cut.brokenWith(at, kind) <= most) {
                kinds |= 1 << kind;
            }
        }
        int letters = 0;
        for (int letter = 0; letter < ALPHABET; letter++) {
            letters |= hasBit(kinds, told.script.kindOf(letter)) << letter;
        }
        return letters;
    }

    public int mended() {
        mender.choose(cut);
        past.keep(told);
        for (int i = mender.size - 1; i >= 0; i--) {
            told.takeOut(mender.out[i], 1);
        }
        settle();
        return told.size;
    }

    // ---- glyphs

    public int glyphs() {
        return drawing.size;
    }

    public int glyph(int k, int what) {
        if (k < 0 || k >= drawing.size || what < 0 || what >= GLYPH_FACTS) {
            return NO_SUCH;
        }
        return drawing.fact[what][k];
    }

    public int shown(int place) {
        if (place < 0) {
            return BAD_NUMBER;
        }
        return place < told.size ? drawing.shownBy[place] : NONE;
    }

    public int back(int i) {
        if (i < NONE) {
            return BAD_NUMBER;
        }
        if (i == NONE) {
            return readBack.size;
        }
        return i < readBack.size ? readBack.row[i] : NONE;
    }

    public int isOrdered() {
        if (readBack.size != told.size) {
            return 0;
        }
        for (int p = 0; p < told.size; p++) {
            if (readBack.row[p] != told.row[p]) {
                return 0;
            }
        }
        return 1;
    }

    // ---- carets

    public int stops() {
        return cut.size + 1;
    }

    public int stop(int i) {
        if (i < 0) {
            return BAD_NUMBER;
        }
        return cut.stopPlace(i);
    }

    public int next(int at, int by) {
        if (by != 1 && by != -1) {
            return BAD_NUMBER;
        }
        if (at < 0 || at > told.size) {
            return NOT_THERE;
        }
        return by == 1 ? cut.stopAbove(at) : cut.stopBelow(at);
    }

    public int x(int at) {
        int i = cut.stopAt(at);
        return i == NONE ? NOT_THERE : drawing.xOf(i);
    }

    public int hit(int x) {
        if (x < 0 || x > FARTHEST_X) {
            return BAD_NUMBER;
        }
        int nearest = 0;
        for (int i = 1; i <= cut.size; i++) {
            if (Math.abs(drawing.xOf(i) - x) < Math.abs(drawing.xOf(nearest) - x)) {
                nearest = i;
            }
        }
        return cut.stopPlace(nearest);
    }

    // ---- lines

    public int lines(int w) {
        if (!isLineWidth(w)) {
            return BAD_NUMBER;
        }
        return wrap.greedy(drawing.x, cut.size, w);
    }

    public int lineEnd(int w, int i) {
        if (!isLineWidth(w) || i < 0) {
            return BAD_NUMBER;
        }
        wrap.greedy(drawing.x, cut.size, w);
        return i < wrap.size ? cut.stopPlace(wrap.end[i]) : NONE;
    }

    public int even(int w) {
        if (!isLineWidth(w)) {
            return BAD_NUMBER;
        }
        return wrap.evenly(drawing.x, cut.size, w);
    }

    public int evenEnd(int w, int i) {
        if (!isLineWidth(w) || i < 0) {
            return BAD_NUMBER;
        }
        wrap.evenly(drawing.x, cut.size, w);
        return i < wrap.size ? cut.stopPlace(wrap.end[i]) : NONE;
    }

    public int narrowest(int n) {
        if (n < 1 || n > MOST_LINES) {
            return BAD_NUMBER;
        }
        if (cut.size == 0) {
            return NONE;
        }
        for (int w = 1; w <= WIDEST_LINE; w++) {
            int needed = wrap.greedy(drawing.x, cut.size, w);
            if (needed != NONE && needed <= n) {
                return w;
            }
        }
        return NONE;
    }

    // ---- found, compared

    public int find(int n, int from) {
        if (n < 0 || n > tapeSize) {
            return BAD_NUMBER;
        }
        if (from < 0 || from > told.size) {
            return NOT_THERE;
        }
        tapeSize = 0;
        if (n == 0) {
            return NONE;
        }
        for (int p = from; p + n <= told.size; p++) {
            if (cut.stopAt(p) != NONE && cut.stopAt(p + n) != NONE && standsAt(p, n)) {
                return p;
            }
        }
        return NONE;
    }

    public int alike(int i, int j) {
        if (!cut.has(i) || !cut.has(j)) {
            return NO_SUCH;
        }
        return drawing.inOrder(i, j) == 0 ? 1 : 0;
    }

    public int kinds() {
        int many = 0;
        for (int i = 0; i < cut.size; i++) {
            boolean isNew = true;
            for (int j = 0; j < i && isNew; j++) {
                isNew = drawing.inOrder(j, i) != 0;
            }
            many += isNew ? 1 : 0;
        }
        return many;
    }

    public int compare(int i, int j) {
        if (!cut.has(i) || !cut.has(j)) {
            return NO_SUCH;
        }
        int order = drawing.inOrder(i, j);
        if (order == 0) {
            return 0;
        }
        return order < 0 ? 1 : 2;
    }

    public int ranked(int i) {
        if (i < 0) {
            return BAD_NUMBER;
        }
        for (int c = 0; c < cut.size; c++) {
            if (clustersAheadOf(c) == i) {
                return c;
            }
        }
        return NONE;
    }

    // ---- back

    public int undo(int n) {
        if (n < 1 || n > MOST_UNDONE || n > past.size) {
            return BAD_NUMBER;
        }
        past.goBack(n, told);
        settle();
        return past.size;
    }

    public int image(int i) {
        if (i < 0 || i >= IMAGES) {
            return NO_SUCH;
        }
        pictures.take(i, told);
        return 0;
    }

    public int restore(int i) {
        if (i < 0 || i >= IMAGES) {
            return NO_SUCH;
        }
        if (!pictures.isMade(i)) {
            return NO_IMAGE;
        }
        pictures.show(i, told);
        past.forget();
        settle();
        return 0;
    }

    public int count(int what) {
        switch (what) {
            case 0:
                return told.size;
            case 1:
                return told.script.lettersTold();
            case 2:
                return told.script.pairs;
            case 3:
                return tapeSize;
            case 4:
                return past.size;
            case 5:
                return drawing.xOf(cut.size);
            case 6:
                return drawing.glyphsOfForm(JOINER_FORM);
            case 7:
                return drawing.glyphsOfForm(VIRAMA_FORM);
            default:
                return NONE;
        }
    }

    private void putBytes(int word) {
        for (int shift = 24; shift >= 0; shift -= 8) {
            if (tapeSize < MOST_BYTES) {
                tape[tapeSize] = (word >>> shift) & 255;
                tapeSize++;
            }
        }
    }

    private void emptyTape(int fault, int place) {
        tapeSize = 0;
        faultFound = fault;
        faultPlace = place;
    }

    private int firstNoLetter(int n) {
        for (int p = 0; p < n && p < MOST_BYTES; p++) {
            if (!isLetter(tape[p] - 'a')) {
                return p;
            }
        }
        return NONE;
    }

    private boolean standsAt(int place, int n) {
        for (int k = 0; k < n && k < MOST_BYTES; k++) {
            if (told.letterAt(place + k) != tape[k] - 'a') {
                return false;
            }
        }
        return true;
    }

    private int clustersAheadOf(int c) {
        int many = 0;
        for (int d = 0; d < cut.size; d++) {
            int order = drawing.inOrder(d, c);
            if (order < 0 || order == 0 && d < c) {
                many++;
            }
        }
        return many;
    }

    // What is shown hangs on the script and the text alone, so it is made anew
    // once behind each change and merely looked up by all that asks.
    private void settle() {
        cut.split(told);
        drawing.clear();
        readBack.clear();
        for (int c = 0; c < cut.size; c++) {
            anatomy.study(told, cut, c);
            cut.describe(c, anatomy);
            drawing.draw(c);
            readBack.read(c);
        }
    }

    private static boolean isLetter(int letter) {
        return letter >= 0 && letter < ALPHABET;
    }

    private static boolean isSign(int kind) {
        return kind >= BEFORE && kind <= SPLIT;
    }

    private static boolean isPart(int kind) {
        return kind >= BEFORE && kind <= BEHIND;
    }

    private static boolean isMarkOrTail(int kind) {
        return kind == MARK || kind == TAIL;
    }

    private static boolean isJoinerOrBreaker(int kind) {
        return kind == JOINER || kind == BREAKER;
    }

    private static boolean isLineWidth(int w) {
        return w >= 1 && w <= WIDEST_LINE;
    }

    private static int hasBit(int bits, int bit) {
        return (bits >>> bit) & 1;
    }

    // The state behind a letter that belongs to the cluster so far; NONE if it doesn't.
    private static int goOn(int state, int kind) {
        if (kind == CONSONANT) {
            return state == AFTER_VIRAMA || state == AFTER_JOINER ? AFTER_CONSONANT : NONE;
        }
        if (kind == VIRAMA) {
            if (state == AFTER_CONSONANT || state == AFTER_NUKTA) {
                return AFTER_VIRAMA;
            }
            return state == LONE_NUKTA ? LONE_VIRAMA : NONE;
        }
        if (kind == NUKTA) {
            if (state == AFTER_CONSONANT) {
                return AFTER_NUKTA;
            }
            return state == AFTER_VOWEL ? IN_MARKS : NONE;
        }
        if (isSign(kind)) {
            return takesSigns(state) ? IN_SIGNS : NONE;
        }
        if (isMarkOrTail(kind)) {
            return state == CLOSED ? NONE : IN_MARKS;
        }
        if (isJoinerOrBreaker(kind)) {
            if (state == AFTER_VIRAMA) {
                return AFTER_JOINER;
            }
            return state == LONE_VIRAMA ? IN_MARKS : NONE;
        }
        return NONE;
    }

    private static boolean takesSigns(int state) {
        return state == AFTER_CONSONANT || state == AFTER_NUKTA || state == LONE_NUKTA || state == IN_SIGNS;
    }

    // The state behind the first letter of a cluster.
    private static int firstState(int kind) {
        switch (kind) {
            case CONSONANT:
                return AFTER_CONSONANT;
            case VOWEL:
                return AFTER_VOWEL;
            case VIRAMA:
                return LONE_VIRAMA;
            case NUKTA:
                return LONE_NUKTA;
            case MARK:
            case TAIL:
                return IN_MARKS;
            default:
                return isSign(kind) ? IN_SIGNS : CLOSED;
        }
    }

    private static int sortOf(int kind) {
        switch (kind) {
            case CONSONANT:
                return OF_CONSONANT;
            case VOWEL:
                return OF_VOWEL;
            case PLAIN:
            case JOINER:
            case BREAKER:
                return OF_OTHER;
            default:
                return OF_BROKEN;
        }
    }

    private static int stateBehind(int state, int kind) {
        int on = goOn(state, kind);
        return on == NONE ? firstState(kind) : on;
    }

    private static boolean breaks(int state, int kind) {
        return sortOf(kind) == OF_BROKEN && goOn(state, kind) == NONE;
    }

    private static int wideOf(int form, int rank) {
        switch (form) {
            case WHOLE:
            case VOWEL_FORM:
                return 4;
            case HALF:
                return 2;
            case JOINED_WHOLE:
                return 5;
            case JOINED_HALF:
            case CIRCLE:
            case ALONE:
                return 3;
            case SIGN:
                return rank == 0 || rank == BEHIND_RANK ? 2 : 0;
            case MARKING:
                return rank == TAIL_RANK ? 1 : 0;
            default:
                return 0;
        }
    }

    private static String wordNamed(int word) {
        switch (word) {
            case CONSONANT:
                return "consonants";
            case VOWEL:
                return "vowels";
            case VIRAMA:
                return "virama";
            case NUKTA:
                return "nukta";
            case BEFORE:
                return "before";
            case ABOVE:
                return "above";
            case BELOW:
                return "below";
            case BEHIND:
                return "behind";
            case SPLIT:
                return "splits";
            case MARK:
                return "marks";
            case TAIL:
                return "tails";
            case JOINER:
                return "joiner";
            case BREAKER:
                return "breaker";
            case RA_WORD:
                return "ra";
            case STACK_WORD:
                return "stack";
            case HALF_WORD:
                return "half";
            default:
                return "joins";
        }
    }

    private static boolean isToldOnce(int word) {
        return word == VIRAMA || word == NUKTA || isJoinerOrBreaker(word) || word == RA_WORD;
    }

    /** What has been told of each letter. */
    private static final class Script {
        final int[] kind = new int[ALPHABET];
        final int[] firstPart = new int[ALPHABET];
        final int[] secondPart = new int[ALPHABET];
        final int[] joinedTo = new int[ALPHABET];
        int ra = NONE;
        int stacking = 0;
        int halved = 0;
        int pairs = 0;

        Script() {
        }

        void clear() {
            for (int letter = 0; letter < ALPHABET; letter++) {
                kind[letter] = PLAIN;
                joinedTo[letter] = 0;
            }
            ra = NONE;
            stacking = 0;
            halved = 0;
            pairs = 0;
        }

        void copyFrom(Script other) {
            System.arraycopy(other.kind, 0, kind, 0, ALPHABET);
            System.arraycopy(other.firstPart, 0, firstPart, 0, ALPHABET);
            System.arraycopy(other.secondPart, 0, secondPart, 0, ALPHABET);
            System.arraycopy(other.joinedTo, 0, joinedTo, 0, ALPHABET);
            ra = other.ra;
            stacking = other.stacking;
            halved = other.halved;
            pairs = other.pairs;
        }

        int kindOf(int letter) {
            return letter >= 0 && letter < ALPHABET ? kind[letter] : PLAIN;
        }

        int partOf(int letter, int which) {
            if (kindOf(letter) != SPLIT) {
                return NONE;
            }
            return which == 0 ? firstPart[letter] : secondPart[letter];
        }

        boolean joined(int a, int b) {
            return isLetter(a) && isLetter(b) && hasBit(joinedTo[a], b) == 1;
        }

        int lettersTold() {
            int many = 0;
            for (int letter = 0; letter < ALPHABET; letter++) {
                many += kind[letter] != PLAIN ? 1 : 0;
            }
            return many;
        }
    }

    /** The script and the text: all that undoing and images bring back. */
    private static final class State {
        final Script script = new Script();
        final int[] row = new int[MOST_LETTERS];
        int size = 0;

        State() {
        }

        void copyFrom(State other) {
            script.copyFrom(other.script);
            System.arraycopy(other.row, 0, row, 0, MOST_LETTERS);
            size = other.size;
        }

        int letterAt(int place) {
            return place >= 0 && place < size ? row[place] : NONE;
        }

        void become(int[] from, int n, int zero) {
            size = 0;
            for (int p = 0; p < n && p < MOST_LETTERS && p < from.length; p++) {
                row[p] = from[p] - zero;
                size++;
            }
        }

        void putIn(int place, int letter) {
            if (size >= MOST_LETTERS || place < 0 || place > size) {
                return;
            }
            for (int p = size; p > place; p--) {
                row[p] = row[p - 1];
            }
            row[place] = letter;
            size++;
        }

        void takeOut(int place, int many) {
            if (place < 0 || many < 0 || place + many > size) {
                return;
            }
            for (int p = place; p + many < size; p++) {
                row[p] = row[p + many];
            }
            size -= many;
        }
    }

    /** Reads a script's text into a script of its own, which is whole only if no fault was found. */
    private static final class Reader {
        final Script script = new Script();
        int fault = 0;
        int faultPlace = NONE;
        private final int[] bytes = new int[MOST_BYTES];
        private int end = 0;
        private int place = 0;
        private int toldOnce = 0;

        Reader() {
        }

        void readScript(int[] from, int n) {
            script.clear();
            fault = 0;
            faultPlace = NONE;
            end = 0;
            for (int p = 0; p < n && p < MOST_BYTES && p < from.length; p++) {
                bytes[p] = from[p];
                end++;
            }
            place = 0;
            toldOnce = 0;
            skipBlanks();
            for (int line = 0; line < MOST_BYTES && place < end && fault == 0; line++) {
                readLine();
                skipBlanks();
            }
        }

        private void readLine() {
            int wordFrom = place;
            int wordLong = skipLetters();
            if (wordLong == 0) {
                fail(WRONG_BYTE, place);
                return;
            }
            int word = wordAt(wordFrom, wordLong);
            if (word == NONE) {
                fail(WRONG_WORD, wordFrom);
                return;
            }
            skipBlanks();
            int rowFrom = place;
            int rowLong = skipLetters();
            if (rowLong == 0) {
                fail(WRONG_BYTE, place);
                return;
            }
            if (!takeRow(word, rowFrom, rowLong)) {
                fail(WRONG_ROW, rowFrom);
                return;
            }
            skipBlanks();
            if (byteAt(place) != ';') {
                fail(WRONG_BYTE, place);
                return;
            }
            place++;
        }

        private void fail(int which, int where) {
            fault = which;
            faultPlace = where;
        }

        private int byteAt(int p) {
            return p >= 0 && p < end ? bytes[p] : NONE;
        }

        private void skipBlanks() {
            for (int p = place; p < end && bytes[p] == ' '; p++) {
                place++;
            }
        }

        private int skipLetters() {
            int from = place;
            for (int p = from; p < end && isLetter(bytes[p] - 'a'); p++) {
                place++;
            }
            return place - from;
        }

        private int wordAt(int from, int length) {
            for (int word = 1; word <= LAST_WORD; word++) {
                if (isWord(wordNamed(word), from, length)) {
                    return word;
                }
            }
            return NONE;
        }

        private boolean isWord(String name, int from, int length) {
            if (name.length() != length) {
                return false;
            }
            for (int k = 0; k < length; k++) {
                if (byteAt(from + k) != name.charAt(k)) {
                    return false;
                }
            }
            return true;
        }

        private boolean takeRow(int word, int from, int length) {
            if (isToldOnce(word)) {
                if (length != 1 || hasBit(toldOnce, word) == 1) {
                    return false;
                }
                toldOnce |= 1 << word;
            }
            switch (word) {
                case RA_WORD:
                    return takeRa(from);
                case STACK_WORD:
                case HALF_WORD:
                    return takeTraits(word, from, length);
                case JOINS_WORD:
                    return length == 2 && takePair(byteAt(from) - 'a', byteAt(from + 1) - 'a');
                case SPLIT:
                    return length == 3 && takeSplit(from);
                default:
                    return takeKind(word, from, length);
            }
        }

        private boolean takeKind(int kind, int from, int length) {
            for (int k = 0; k < length; k++) {
                int letter = byteAt(from + k) - 'a';
                if (!isLetter(letter) || script.kind[letter] != PLAIN) {
                    return false;
                }
                script.kind[letter] = kind;
            }
            return true;
        }

        private boolean takeRa(int from) {
            int letter = byteAt(from) - 'a';
            if (script.kindOf(letter) != CONSONANT) {
                return false;
            }
            script.ra = letter;
            return true;
        }

        private boolean takeTraits(int word, int from, int length) {
            int bits = 0;
            for (int k = 0; k < length; k++) {
                int letter = byteAt(from + k) - 'a';
                if (script.kindOf(letter) != CONSONANT || hasBit(bits, letter) == 1) {
                    return false;
                }
                bits |= 1 << letter;
            }
            if (word == STACK_WORD) {
                script.stacking |= bits;
            } else {
                script.halved |= bits;
            }
            return true;
        }

        private boolean takePair(int a, int b) {
            if (script.kindOf(a) != CONSONANT || script.kindOf(b) != CONSONANT) {
                return false;
            }
            if (script.joined(a, b) || script.pairs >= MOST_PAIRS) {
                return false;
            }
            script.joinedTo[a] |= 1 << b;
            script.pairs++;
            return true;
        }

        private boolean takeSplit(int from) {
            int letter = byteAt(from) - 'a';
            int first = byteAt(from + 1) - 'a';
            int second = byteAt(from + 2) - 'a';
            if (!isLetter(letter) || script.kind[letter] != PLAIN) {
                return false;
            }
            if (!isPart(script.kindOf(first)) || !isPart(script.kindOf(second))) {
                return false;
            }
            script.kind[letter] = SPLIT;
            script.firstPart[letter] = first;
            script.secondPart[letter] = second;
            return true;
        }
    }

    /** The states ahead of the latest calls, the eldest first. */
    private static final class History {
        int size = 0;
        private final State[] kept = new State[MOST_UNDONE];

        History() {
            for (int i = 0; i < MOST_UNDONE; i++) {
                kept[i] = new State();
            }
        }

        void keep(State state) {
            if (size >= MOST_UNDONE) {
                dropEldest();
            }
            State slot = kept[size];
            if (slot != null) {
                slot.copyFrom(state);
                size++;
            }
        }

        // The eldest one's object is used again for the one to come.
        private void dropEldest() {
            State eldest = kept[0];
            for (int i = 1; i < MOST_UNDONE; i++) {
                kept[i - 1] = kept[i];
            }
            kept[MOST_UNDONE - 1] = eldest;
            size = MOST_UNDONE - 1;
        }

        void goBack(int n, State into) {
            if (n < 1 || n > size) {
                return;
            }
            State slot = kept[size - n];
            if (slot != null) {
                into.copyFrom(slot);
                size -= n;
            }
        }

        void forget() {
            size = 0;
        }
    }

    /** The images to go on from. */
    private static final class Pictures {
        private final State[] kept = new State[IMAGES];
        private final boolean[] made = new boolean[IMAGES];

        Pictures() {
            for (int i = 0; i < IMAGES; i++) {
                kept[i] = new State();
            }
        }

        boolean isMade(int i) {
            return i >= 0 && i < IMAGES && made[i];
        }

        void take(int i, State state) {
            if (i >= 0 && i < IMAGES && kept[i] != null) {
                kept[i].copyFrom(state);
                made[i] = true;
            }
        }

        void show(int i, State into) {
            if (isMade(i) && kept[i] != null) {
                into.copyFrom(kept[i]);
            }
        }
    }

    /** The text cut into clusters, and what is known of each. */
    private static final class Cut {
        int size = 0;
        private int letters = 0;
        private final int[] kind = new int[MOST_LETTERS];
        private final int[] owner = new int[MOST_LETTERS];
        private final int[][] fact = new int[CLUSTER_FACTS][MOST_LETTERS];

        Cut() {
        }

        void split(State told) {
            size = 0;
            letters = told.size;
            int state = CLOSED;
            for (int p = 0; p < letters && p < MOST_LETTERS; p++) {
                kind[p] = told.script.kindOf(told.letterAt(p));
                if (size == 0 || goOn(state, kind[p]) == NONE) {
                    fact[BEGIN][size] = p;
                    fact[LENGTH][size] = 0;
                    fact[SORT][size] = sortOf(kind[p]);
                    size++;
                }
                fact[LENGTH][size - 1]++;
                owner[p] = size - 1;
                state = stateBehind(state, kind[p]);
            }
        }

        void describe(int i, Anatomy of) {
            if (!has(i)) {
                return;
            }
            fact[DEAD][i] = of.isDead ? 1 : 0;
            fact[IN_CHAIN][i] = of.size;
            fact[BASE_PLACE][i] = of.basePlace();
            fact[HAS_REPH][i] = of.ahead;
            fact[IN_STACK][i] = of.size == 0 ? 0 : of.size - 1 - of.base;
            fact[PAIRS][i] = of.pairs;
        }

        boolean has(int i) {
            return i >= 0 && i < size;
        }

        int factOf(int i, int what) {
            return has(i) && what >= 0 && what < CLUSTER_FACTS ? fact[what][i] : NONE;
        }

        int endOf(int i) {
            return has(i) ? fact[BEGIN][i] + fact[LENGTH][i] : 0;
        }

        int ownerOf(int place) {
            return place >= 0 && place < letters ? owner[place] : NONE;
        }

        int kindAt(int place) {
            return place >= 0 && place < letters ? kind[place] : NONE;
        }

        int brokenAt(int i) {
            int many = 0;
            for (int c = 0; c < size; c++) {
                if (fact[SORT][c] == OF_BROKEN) {
                    if (many == i) {
                        return c;
                    }
                    many++;
                }
            }
            return NONE;
        }

        // How many clusters were broken with a letter of a kind put in at a place (NONE: nowhere).
        int brokenWith(int at, int put) {
            int many = 0;
            int state = CLOSED;
            for (int p = 0; p <= letters; p++) {
                if (p == at) {
                    many += breaks(state, put) ? 1 : 0;
                    state = stateBehind(state, put);
                }
                if (p < letters) {
                    many += breaks(state, kindAt(p)) ? 1 : 0;
                    state = stateBehind(state, kindAt(p));
                }
            }
            return many;
        }

        int stopPlace(int i) {
            if (i < 0 || i > size) {
                return NONE;
            }
            return i == size ? letters : fact[BEGIN][i];
        }

        int stopAt(int place) {
            for (int i = 0; i <= size; i++) {
                if (stopPlace(i) == place) {
                    return i;
                }
            }
            return NONE;
        }

        int stopAbove(int place) {
            for (int i = 0; i <= size; i++) {
                if (stopPlace(i) > place) {
                    return stopPlace(i);
                }
            }
            return NONE;
        }

        int stopBelow(int place) {
            for (int i = size; i >= 0; i--) {
                if (stopPlace(i) < place) {
                    return stopPlace(i);
                }
            }
            return NONE;
        }
    }

    /** How one cluster is built: its chain, the letters behind each consonant, where its end begins. */
    private static final class Anatomy {
        int size = 0;
        int base = 0;
        // How many stand ahead of those that can be base: 1 with a reph.
        int ahead = 0;
        int pairs = 0;
        int sort = OF_OTHER;
        int begin = 0;
        int end = 0;
        int tail = 0;
        int ownNukta = NONE;
        boolean isDead = false;
        final int[] place = new int[MOST_LETTERS];
        final int[] nukta = new int[MOST_LETTERS];
        final int[] virama = new int[MOST_LETTERS];
        final int[] joiner = new int[MOST_LETTERS];
        final boolean[] joinsNext = new boolean[MOST_LETTERS];

        Anatomy() {
        }

        void study(State told, Cut cut, int i) {
            sort = cut.factOf(i, SORT);
            begin = cut.factOf(i, BEGIN);
            end = cut.endOf(i);
            size = 0;
            base = 0;
            ahead = 0;
            pairs = 0;
            tail = end;
            ownNukta = NONE;
            if (sort == OF_CONSONANT) {
                readChain(cut);
                ahead = hasReph(told) ? 1 : 0;
                base = chosenBase(told);
                joinPairs(told);
            } else if (sort != OF_OTHER) {
                tail = sort == OF_VOWEL ? begin + 1 : begin;
                if (tail < end && cut.kindAt(tail) == NUKTA) {
                    ownNukta = tail;
                    tail++;
                }
            }
            isDead = tail < end && cut.kindAt(tail) == VIRAMA;
        }

        // A virama and a joiner at the very end belong to the end and not to the
        // chain, so they are told of a consonant only when the next one comes.
        private void readChain(Cut cut) {
            for (int p = begin; p < end && size < MOST_LETTERS; p++) {
                if (cut.kindAt(p) == CONSONANT) {
                    readBetween(cut, p);
                    place[size] = p;
                    nukta[size] = p + 1 < end && cut.kindAt(p + 1) == NUKTA ? p + 1 : NONE;
                    virama[size] = NONE;
                    joiner[size] = NONE;
                    joinsNext[size] = false;
                    tail = nukta[size] == NONE ? p + 1 : p + 2;
                    size++;
                }
            }
        }

        private void readBetween(Cut cut, int next) {
            if (size == 0) {
                return;
            }
            virama[size - 1] = tail;
            if (isJoinerOrBreaker(cut.kindAt(next - 1))) {
                joiner[size - 1] = next - 1;
            }
        }

        private boolean hasReph(State told) {
            return size > 1 && told.letterAt(place[0]) == told.script.ra && nukta[0] == NONE && joiner[0] == NONE;
        }

        private int chosenBase(State told) {
            for (int k = size - 1; k > ahead; k--) {
                if (hasBit(told.script.stacking, told.letterAt(place[k])) == 0 || joiner[k - 1] != NONE) {
                    return k;
                }
            }
            return ahead;
        }

        private void joinPairs(State told) {
            for (int k = ahead; k < base; k++) {
                boolean isTaken = k > ahead && joinsNext[k - 1];
                boolean isFree = !isTaken && joiner[k] == NONE && nukta[k] == NONE;
                if (isFree && told.script.joined(told.letterAt(place[k]), told.letterAt(place[k + 1]))) {
                    joinsNext[k] = true;
                    pairs++;
                }
            }
        }

        int basePlace() {
            if (sort == OF_BROKEN) {
                return NONE;
            }
            return sort == OF_CONSONANT && base < size ? place[base] : begin;
        }
    }

    /** The glyphs of all clusters, in the order in which they are shown. */
    private static final class Drawing {
        int size = 0;
        final int[][] fact = new int[GLYPH_FACTS][MOST_GLYPHS];
        final int[] shownBy = new int[MOST_LETTERS];
        final int[] x = new int[MOST_LETTERS + 1];
        private final int[] from = new int[MOST_LETTERS + 1];
        private final State told;
        private final Cut cut;
        private final Anatomy body;
        private int owner = 0;

        Drawing(State told, Cut cut, Anatomy body) {
            this.told = told;
            this.cut = cut;
            this.body = body;
        }

        void clear() {
            size = 0;
        }

        void draw(int i) {
            if (!cut.has(i)) {
                return;
            }
            owner = i;
            drawSigns(BEFORE, 0);
            drawAhead();
            drawMiddle();
            drawStacked();
            drawSigns(BELOW, BELOW_RANK);
            drawDead();
            drawSigns(ABOVE, 5);
            drawReph();
            drawMarks(MARK, 7);
            drawSigns(BEHIND, BEHIND_RANK);
            drawMarks(TAIL, TAIL_RANK);
            from[i + 1] = size;
            measure(i);
        }

        private void measure(int i) {
            x[i + 1] = x[i];
            for (int k = from[i]; k < from[i + 1]; k++) {
                fact[WIDE][k] = wideOf(fact[FORM][k], fact[RANK][k]);
                x[i + 1] += fact[WIDE][k];
            }
        }

        private int put(int form, int first, int second, int place, int rank) {
            if (size >= MOST_GLYPHS) {
                return NONE;
            }
            fact[FORM][size] = form;
            fact[FIRST][size] = first;
            fact[SECOND][size] = second;
            fact[PLACE][size] = place;
            fact[OWNER][size] = owner;
            fact[RANK][size] = rank;
            size++;
            return size - 1;
        }

        // A letter that isn't there (NONE) is passed over, so that the callers needn't ask.
        private int putLetter(int form, int place, int rank) {
            if (place == NONE) {
                return NONE;
            }
            int glyph = put(form, told.letterAt(place), NONE, place, rank);
            showBy(place, glyph);
            return glyph;
        }

        private void showBy(int place, int glyph) {
            if (place >= 0 && place < MOST_LETTERS) {
                shownBy[place] = glyph;
            }
        }

        private void drawSigns(int kind, int rank) {
            for (int p = body.tail; p < body.end; p++) {
                if (cut.kindAt(p) == kind) {
                    putLetter(SIGN, p, rank);
                } else if (cut.kindAt(p) == SPLIT) {
                    drawPart(p, 0, kind, rank);
                    drawPart(p, 1, kind, rank);
                }
            }
        }

        private void drawPart(int place, int which, int kind, int rank) {
            int part = told.script.partOf(told.letterAt(place), which);
            if (told.script.kindOf(part) != kind) {
                return;
            }
            int glyph = put(SIGN, part, NONE, place, rank);
            if (which == 0) {
                showBy(place, glyph);
            }
        }

        private void drawMarks(int kind, int rank) {
            for (int p = body.tail; p < body.end; p++) {
                if (cut.kindAt(p) == kind) {
                    putLetter(MARKING, p, rank);
                }
            }
        }

        private void drawAhead() {
            for (int k = body.ahead; k < body.base; k++) {
                boolean isSecond = k > body.ahead && body.joinsNext[k - 1];
                int last = body.joinsNext[k] ? k + 1 : k;
                // One that is joined to base is drawn with it.
                if (isSecond || last >= body.base) {
                    continue;
                }
                boolean isHalf = isHalf(last);
                int glyph = drawConsonants(k, last, isHalf, 1);
                putLetter(NUKTA_FORM, body.nukta[last], 1);
                if (isHalf) {
                    showBy(body.virama[last], glyph);
                } else {
                    putLetter(VIRAMA_FORM, body.virama[last], 1);
                }
                putLetter(JOINER_FORM, body.joiner[last], 1);
            }
        }

        private boolean isHalf(int k) {
            boolean isKept = body.joiner[k] != NONE && cut.kindAt(body.joiner[k]) == BREAKER;
            return !isKept && hasBit(told.script.halved, told.letterAt(body.place[k])) == 1;
        }

        // One consonant (k is last) or two joined ones.
        private int drawConsonants(int k, int last, boolean isHalf, int rank) {
            if (k == last) {
                return putLetter(isHalf ? HALF : WHOLE, body.place[k], rank);
            }
            int form = isHalf ? JOINED_HALF : JOINED_WHOLE;
            int first = told.letterAt(body.place[k]);
            int second = told.letterAt(body.place[last]);
            int glyph = put(form, first, second, body.place[k], rank);
            showBy(body.place[k], glyph);
            showBy(body.virama[k], glyph);
            showBy(body.place[last], glyph);
            return glyph;
        }

        private void drawMiddle() {
            if (body.sort == OF_CONSONANT) {
                boolean isPair = body.base > body.ahead && body.joinsNext[body.base - 1];
                drawConsonants(isPair ? body.base - 1 : body.base, body.base, false, BASE_RANK);
                putLetter(NUKTA_FORM, body.nukta[body.base], BASE_RANK);
                return;
            }
            if (body.sort == OF_BROKEN) {
                put(CIRCLE, NONE, NONE, NONE, BASE_RANK);
            } else if (body.sort == OF_VOWEL) {
                putLetter(VOWEL_FORM, body.begin, BASE_RANK);
            } else {
                putLetter(isJoinerOrBreaker(cut.kindAt(body.begin)) ? JOINER_FORM : ALONE, body.begin, BASE_RANK);
            }
            putLetter(NUKTA_FORM, body.ownNukta, BASE_RANK);
        }

        private void drawStacked() {
            for (int k = body.base + 1; k < body.size; k++) {
                showBy(body.virama[k - 1], putLetter(STACKED, body.place[k], 3));
                putLetter(NUKTA_FORM, body.nukta[k], 3);
            }
        }

        private void drawDead() {
            if (!body.isDead) {
                return;
            }
            putLetter(VIRAMA_FORM, body.tail, BELOW_RANK);
            int behind = body.tail + 1;
            if (behind < body.end && isJoinerOrBreaker(cut.kindAt(behind))) {
                putLetter(JOINER_FORM, behind, BELOW_RANK);
            }
        }

        private void drawReph() {
            if (body.ahead == 1) {
                showBy(body.virama[0], putLetter(REPH, body.place[0], 6));
            }
        }

        int xOf(int stop) {
            return stop >= 0 && stop <= cut.size ? x[stop] : 0;
        }

        int widthOf(int i) {
            return cut.has(i) ? x[i + 1] - x[i] : 0;
        }

        int glyphsOf(int i) {
            return cut.has(i) ? from[i + 1] - from[i] : 0;
        }

        int glyphsOfForm(int form) {
            int many = 0;
            for (int k = 0; k < size; k++) {
                many += fact[FORM][k] == form ? 1 : 0;
            }
            return many;
        }

        // Below 0: cluster i is ahead of cluster j; 0: they are alike.
        int inOrder(int i, int j) {
            if (!cut.has(i) || !cut.has(j)) {
                return 0;
            }
            int order = glyphsInOrder(baseGlyph(i), baseGlyph(j));
            int many = Math.min(glyphsOf(i), glyphsOf(j));
            for (int k = 0; k < many && order == 0; k++) {
                order = glyphsInOrder(from[i] + k, from[j] + k);
            }
            return order == 0 ? glyphsOf(i) - glyphsOf(j) : order;
        }

        private int glyphsInOrder(int a, int b) {
            int order = orderedFirst(a) - orderedFirst(b);
            if (order == 0) {
                order = fact[FORM][a] - fact[FORM][b];
            }
            return order == 0 ? fact[SECOND][a] - fact[SECOND][b] : order;
        }

        private int orderedFirst(int glyph) {
            return fact[FORM][glyph] == CIRCLE ? ALPHABET : fact[FIRST][glyph];
        }

        private int baseGlyph(int i) {
            for (int k = from[i]; k < from[i + 1]; k++) {
                if (fact[RANK][k] == BASE_RANK) {
                    return k;
                }
            }
            return from[i];
        }
    }

    /** What the text would be, read from the glyphs. */
    private static final class ReadBack {
        int size = 0;
        final int[] row = new int[MOST_BACK];
        private final State told;
        private final Cut cut;

        ReadBack(State told, Cut cut) {
            this.told = told;
            this.cut = cut;
        }

        void clear() {
            size = 0;
        }

        void read(int i) {
            int begin = cut.factOf(i, BEGIN);
            int end = cut.endOf(i);
            for (int p = begin; p < end; p++) {
                if (!isSign(cut.kindAt(p)) && !isMarkOrTail(cut.kindAt(p))) {
                    put(told.letterAt(p));
                }
            }
            for (int kind = BEFORE; kind <= BEHIND; kind++) {
                readSigns(kind, begin, end);
            }
            readKind(MARK, begin, end);
            readKind(TAIL, begin, end);
        }

        private void readSigns(int kind, int begin, int end) {
            for (int p = begin; p < end; p++) {
                if (cut.kindAt(p) == kind) {
                    put(told.letterAt(p));
                } else if (cut.kindAt(p) == SPLIT) {
                    readPart(told.script.partOf(told.letterAt(p), 0), kind);
                    readPart(told.script.partOf(told.letterAt(p), 1), kind);
                }
            }
        }

        private void readPart(int part, int kind) {
            if (told.script.kindOf(part) == kind) {
                put(part);
            }
        }

        private void readKind(int kind, int begin, int end) {
            for (int p = begin; p < end; p++) {
                if (cut.kindAt(p) == kind) {
                    put(told.letterAt(p));
                }
            }
        }

        private void put(int letter) {
            if (size < MOST_BACK) {
                row[size] = letter;
                size++;
            }
        }
    }

    /** Lines of a width, as the clusters behind their last ones; x is where the clusters begin. */
    private static final class Wrap {
        int size = 0;
        final int[] end = new int[MOST_LETTERS + 1];
        private final int[] squares = new int[MOST_LETTERS + 1];
        private final int[] firstBreak = new int[MOST_LETTERS + 1];

        Wrap() {
        }

        private boolean fits(int[] x, int clusters, int w) {
            if (clusters < 0 || clusters > MOST_LETTERS || clusters >= x.length) {
                return false;
            }
            for (int c = 0; c < clusters; c++) {
                if (x[c + 1] - x[c] > w) {
                    return false;
                }
            }
            return true;
        }

        int greedy(int[] x, int clusters, int w) {
            size = 0;
            if (!fits(x, clusters, w)) {
                return NONE;
            }
            int lineFrom = 0;
            for (int c = 0; c < clusters; c++) {
                if (x[c + 1] - x[lineFrom] > w) {
                    endLine(c);
                    lineFrom = c;
                }
            }
            if (clusters > 0) {
                endLine(clusters);
            }
            return size;
        }

        // From the last cluster on: the best of what begins at one needs only the
        // best of what begins behind it; of like ones the later break is taken last.
        int evenly(int[] x, int clusters, int w) {
            size = 0;
            if (!fits(x, clusters, w)) {
                return NONE;
            }
            squares[clusters] = 0;
            for (int c = clusters - 1; c >= 0; c--) {
                chooseBreak(x, clusters, w, c);
            }
            int lineFrom = 0;
            for (int line = 0; line < clusters && lineFrom < clusters; line++) {
                lineFrom = firstBreak[lineFrom];
                endLine(lineFrom);
            }
            return squares[0];
        }

        private void chooseBreak(int[] x, int clusters, int w, int c) {
            squares[c] = NONE;
            for (int b = c + 1; b <= clusters && x[b] - x[c] <= w; b++) {
                int left = w - (x[b] - x[c]);
                int all = b == clusters ? 0 : left * left + squares[b];
                if (squares[c] == NONE || all <= squares[c]) {
                    squares[c] = all;
                    firstBreak[c] = b;
                }
            }
        }

        private void endLine(int behind) {
            if (size <= MOST_LETTERS) {
                end[size] = behind;
                size++;
            }
        }
    }

    /** Chooses the fewest letters to be taken out so that no cluster is broken. */
    private static final class Mender {
        int size = 0;
        final int[] out = new int[MOST_LETTERS];
        private final int[][] fewest = new int[MOST_LETTERS + 1][STATES];

        Mender() {
        }

        void choose(Cut cut) {
            size = 0;
            int letters = cut.endOf(cut.size - 1);
            for (int state = 0; state < STATES; state++) {
                fewest[letters][state] = 0;
            }
            for (int p = letters - 1; p >= 0; p--) {
                for (int state = 0; state < STATES; state++) {
                    int without = 1 + fewest[p + 1][state];
                    fewest[p][state] = Math.min(without, fewestWith(cut.kindAt(p), p, state));
                }
            }
            // Of like many the earlier place goes first, so a letter stays only if it must.
            int state = CLOSED;
            for (int p = 0; p < letters; p++) {
                if (1 + fewest[p + 1][state] == fewest[p][state]) {
                    out[size] = p;
                    size++;
                } else {
                    state = stateBehind(state, cut.kindAt(p));
                }
            }
        }

        private int fewestWith(int kind, int p, int state) {
            return breaks(state, kind) ? MOST_LETTERS + 1 : fewest[p + 1][stateBehind(state, kind)];
        }
    }
}
