/** The boundary cases that promises 31 to 35 name, sentence by sentence. */
public final class EdgesOfLinesTest {
    private static final int NONE = StackedScript.NONE;
    private static final int LEAST = Integer.MIN_VALUE;
    private static final int GREATEST = Integer.MAX_VALUE;
    private static final int[] NO_WIDTHS = {LEAST, -2, -1, 0, 201, 202, GREATEST};

    private EdgesOfLinesTest() {
    }

    public static void main(String[] args) {
        widthRefused();
        iRefused();
        noClusters();
        tooWide();
        widest();
        promise31Lines();
        promise32LineEnd();
        promise33Even();
        promise34EvenEnd();
        promise34AsLateAsCanBe();
        promise35Narrowest();
        promise35NarrowestRefused();
        Check.end();
    }

    // "LINES of a width w (1 to 200)": "-3: w."
    private static void widthRefused() {
        Whole.eachUnchanged("lines", Start::some, StackedScript::lines, -3, NO_WIDTHS);
        Whole.eachUnchanged("even", Start::some, StackedScript::even, -3, NO_WIDTHS);
        Whole.eachUnchanged("lineEnd", Start::some, (s, w) -> s.lineEnd(w, 0), -3, NO_WIDTHS);
        Whole.eachUnchanged("evenEnd", Start::some, (s, w) -> s.evenEnd(w, 0), -3, NO_WIDTHS);
        for (int w : NO_WIDTHS) {
            Check.due("lines of none", Start.fresh().lines(w), -3);
            Check.due("even of none", Start.fresh().even(w), -3);
            Check.due("lineEnd of none: -3 ahead of NONE", Start.fresh().lineEnd(w, 0), -3);
            Check.due("evenEnd of none: -3 ahead of NONE", Start.fresh().evenEnd(w, 0), -3);
            Check.due("lineEnd: -3 ahead of not so many", Start.some().lineEnd(w, 99), -3);
            Check.due("evenEnd: -3 ahead of not so many", Start.some().evenEnd(w, 99), -3);
            Check.due("both wrong", Start.some().lineEnd(w, -1), -3);
            Check.due("both wrong, even", Start.some().evenEnd(w, -1), -3);
        }
    }

    // "-3: w, i is below 0."
    private static void iRefused() {
        Whole.eachUnchanged("lineEnd", Start::some, (s, i) -> s.lineEnd(20, i), -3, LEAST, -2, -1);
        Whole.eachUnchanged("evenEnd", Start::some, (s, i) -> s.evenEnd(20, i), -3, LEAST, -2, -1);
        for (int i : new int[] {LEAST, -1}) {
            Check.due("lineEnd: -3 ahead of none will do", Start.some().lineEnd(1, i), -3);
            Check.due("evenEnd: -3 ahead of none will do", Start.some().evenEnd(1, i), -3);
            Check.due("lineEnd of none", Start.fresh().lineEnd(1, i), -3);
            Check.due("evenEnd of none", Start.fresh().evenEnd(1, i), -3);
        }
    }

    // "without clusters there are 0, the squares 0"
    private static void noClusters() {
        for (int w : new int[] {1, 2, 199, 200}) {
            Check.due("lines of none", Start.fresh().lines(w), 0);
            Check.due("squares of none", Start.fresh().even(w), 0);
            Check.due("lineEnd of none", Start.fresh().lineEnd(w, 0), NONE);
            Check.due("evenEnd of none", Start.fresh().evenEnd(w, 0), NONE);
        }
        StackedScript s = Start.full();
        s.lines(200);
        Check.due("squares of some", s.even(20), 7 * 4);
        s.erase();
        Check.due("lines of none left", s.lines(200), 0);
        Check.due("squares of none left", s.even(20), 0);
        Check.due("the first of none left", s.lineEnd(200, 0), NONE);
        Check.due("squares of none left", s.even(200), 0);
        Check.due("the first even one of none left", s.evenEnd(200, 0), NONE);
    }

    // "None, if a cluster is wider than w": NONE: none will do.
    private static void tooWide() {
        // ko is 8 wide and the widest one of some().
        for (int w = 1; w <= 7; w++) {
            int asked = w;
            Whole.unchanged("lines of " + w, Start::some, s -> s.lines(asked), NONE);
            Whole.unchanged("even of " + w, Start::some, s -> s.even(asked), NONE);
            Whole.unchanged("lineEnd of " + w, Start::some, s -> s.lineEnd(asked, 0), NONE);
            Whole.unchanged("evenEnd of " + w, Start::some, s -> s.evenEnd(asked, 0), NONE);
        }
        Check.due("lines just wide enough", Start.some().lines(8), 5);
        Check.due("even just wide enough", Start.some().evenEnd(8, 0), 1);
        for (String text : new String[] {"eko", "koe", "ekoe", "ko"}) {
            StackedScript s = Check.told(text);
            Check.due("lines of " + text, s.lines(7), NONE);
            Check.due("even of " + text, s.even(7), NONE);
            Check.due("lines just wide enough for " + text, s.lines(8) > 0 ? 1 : 0, 1);
            Check.due("even just wide enough for " + text, s.even(8) >= 0 ? 1 : 0, 1);
        }
        // Behind one that will do nothing is left of its ends.
        StackedScript s = Start.some();
        s.lineEnd(20, 0);
        Check.due("lineEnd then", s.lineEnd(7, 0), NONE);
        s.evenEnd(20, 0);
        Check.due("evenEnd then", s.evenEnd(7, 0), NONE);
    }

    private static void widest() {
        // k with 49 split signs is 4 + 49 * 4 wide.
        StackedScript s = Check.told("k" + Check.times("o", 49));
        Check.due("just 200", s.cluster(0, 10), 200);
        Check.due("lines of 200", s.lines(200), 1);
        Check.due("lines of 199", s.lines(199), NONE);
        Check.due("even of 200", s.even(200), 0);
        Check.due("even of 199", s.even(199), NONE);
        Check.due("narrowest", s.narrowest(1), 200);
        StackedScript more = Check.told("k" + Check.times("o", 49) + "z");
        Check.due("201", more.cluster(0, 10), 201);
        Check.due("lines", more.lines(200), NONE);
        Check.due("lineEnd", more.lineEnd(200, 0), NONE);
        Check.due("even", more.even(200), NONE);
        Check.due("evenEnd", more.evenEnd(200, 0), NONE);
        Check.due("narrowest", more.narrowest(60), NONE);
    }

    private static void greedy(String text, int w, int... ends) {
        StackedScript s = Check.told(text);
        Check.due("lines(" + w + ") of " + text, s.lines(w), ends.length);
        Check.row("lineEnd of " + text, i -> s.lineEnd(w, i), ends);
        Check.due("behind the last of " + text, s.lineEnd(w, ends.length), NONE);
        Check.due("far behind the last of " + text, s.lineEnd(w, GREATEST), NONE);
    }

    // "GREEDY: how many LINES." "no more than w together: GREEDY: each as many as can be."
    private static void promise31Lines() {
        Whole.unchanged("lines", Start::some, s -> s.lines(20), 2);
        greedy(Start.SOME, 8, 1, 3, 8, 10, 20);
        greedy(Start.SOME, 12, 3, 9, 20);
        greedy(Start.SOME, 33, 20);
        greedy(Start.SOME, 32, 16, 20);
        greedy(Start.SOME, 200, 20);
        greedy("x", 3, 1);
        greedy("xx", 5, 1, 2);
        greedy("xx", 6, 2);
        greedy("xxx", 6, 2, 3);
        greedy("j", 1, 1);
        greedy(Check.times("j", 60), 1, 60);
        greedy("xj", 3, 2);
        greedy("jxjxj", 3, 3, 5);
        greedy(Check.times("k", 60), 200, 50, 60);
        greedy(Check.times("k", 60), 199, 49, 60);
        StackedScript s = Check.told(Check.times("k", 60));
        Check.due("sixty lines", s.lines(7), 60);
        Check.due("thirty lines", s.lines(8), 30);
        Check.due("none will do", s.lines(3), NONE);
    }

    // "Where LINE i of it ends (a STOP). NONE: not so many, none will do"
    private static void promise32LineEnd() {
        Whole.eachUnchanged("lineEnd", Start::some, (s, i) -> s.lineEnd(20, i), NONE, 2, 3, 60, GREATEST);
        Check.row("lineEnd", i -> Start.some().lineEnd(20, i), 8, 20, NONE);
        StackedScript s = Check.told(Check.times("k", 60));
        Check.due("the first of sixty", s.lineEnd(4, 0), 1);
        Check.due("the last of sixty", s.lineEnd(4, 59), 60);
        Check.due("behind it", s.lineEnd(4, 60), NONE);
        Check.due("none will do", s.lineEnd(3, 59), NONE);
    }

    private static void even(String text, int w, int squares, int... ends) {
        StackedScript s = Check.told(text);
        Check.due("even(" + w + ") of " + text, s.even(w), squares);
        Check.row("evenEnd of " + text, i -> s.evenEnd(w, i), ends);
        Check.due("behind the last of " + text, s.evenEnd(w, ends.length), NONE);
        Check.due("far behind the last of " + text, s.evenEnd(w, GREATEST), NONE);
    }

    // "so that the squares of what is left on each LINE but the last one are the least together"
    private static void promise33Even() {
        Whole.unchanged("even", Start::some, s -> s.even(20), 1);
        even("x", 200, 0, 1);
        even("x", 3, 0, 1);
        even("xx", 5, 4, 1, 2);
        even("xx", 6, 0, 2);
        even("xxk", 7, 1, 2, 3);
        even("kxxkhsi", 8, 20, 1, 3, 7);
        even("eeeee", 8, 0, 2, 4, 5);
        // The greatest squares: sixty lines, 3 left on each but the last.
        even(Check.times("k", 3), 7, 18, 1, 2, 3);
        Check.due("of sixty", Check.told(Check.times("k", 60)).even(7), 59 * 9);
        // k and 25 split signs are 104 wide: two lines, 96 left on the first one.
        String wide = "k" + Check.times("o", 25);
        even(wide + wide, 200, 96 * 96, 26, 52);
    }

    // "Where LINE i of it ends. NONE, -3 likewise."
    private static void promise34EvenEnd() {
        Whole.eachUnchanged("evenEnd", Start::some, (s, i) -> s.evenEnd(20, i), NONE, 2, 3, 60, GREATEST);
        Check.row("evenEnd", i -> Start.some().evenEnd(20, i), 8, 20, NONE);
        StackedScript s = Check.told(Check.times("k", 60));
        Check.due("the first of sixty", s.evenEnd(4, 0), 1);
        Check.due("the last of sixty", s.evenEnd(4, 59), 60);
        Check.due("behind it", s.evenEnd(4, 60), NONE);
        Check.due("none will do", s.evenEnd(3, 59), NONE);
    }

    // "of like ones the first break as late as can be, then the next"
    private static void promise34AsLateAsCanBe() {
        even("kxkkhsi", 7, 9, 2, 3, 7);
        even("kxxkxxk", 7, 1, 2, 4, 6, 7);
        even("xxx", 6, 0, 2, 3);
        even("kkk", 8, 0, 2, 3);
        even("kjk", 4, 0, 2, 3);
        even("kjjkjj", 4, 0, 3, 6);
        even("jk", 4, 0, 2);
        even("jjj", 9, 0, 3);
        even("kj", 4, 0, 2);
        even("kxkxkx", 7, 0, 2, 4, 6);
        even("kxkhsikxkhsie", 8, 4, 2, 6, 8, 12, 13);
    }

    // "The least w by which n LINES (1 to 60) will do. NONE: by none of 1 to 200, there are no clusters"
    private static void promise35Narrowest() {
        Whole.unchanged("one line", Start::some, s -> s.narrowest(1), 33);
        int[] widths = {33, 19, 12, 11, 8, 8, 8, 8};
        for (int n = 1; n <= widths.length; n++) {
            int w = Start.some().narrowest(n);
            Check.due("narrowest of " + n, w, widths[n - 1]);
            Check.due("it will do for " + n, Start.some().lines(w) <= n ? 1 : 0, 1);
        }
        Check.due("sixty", Start.some().narrowest(60), 8);
        Check.due("none at all", Start.fresh().narrowest(1), NONE);
        Check.due("none in no text", Start.noText().narrowest(60), NONE);
        StackedScript s = Check.told(Check.times("k", 60));
        Check.due("sixty of sixty", s.narrowest(60), 4);
        Check.due("fifty-nine of sixty", s.narrowest(59), 8);
        Check.due("two of sixty", s.narrowest(2), 120);
        Check.due("one of sixty", s.narrowest(1), NONE);
        Check.due("nothing wide", Check.told("jb").narrowest(1), 1);
        Check.due("nothing wide, more lines", Check.told("jb").narrowest(2), 1);
        Check.due("just 200", Check.told(Check.times("k", 50)).narrowest(1), 200);
        Check.due("201 and more", Check.told(Check.times("k", 49) + "xj" + "e").narrowest(1), NONE);
        Check.due("199", Check.told(Check.times("k", 49) + "x").narrowest(1), 199);
    }

    // "-3: n."
    private static void promise35NarrowestRefused() {
        int[] wrong = {LEAST, -2, -1, 0, 61, 62, 200, GREATEST};
        Whole.eachUnchanged("narrowest", Start::some, StackedScript::narrowest, -3, wrong);
        Whole.eachUnchanged("narrowest of none: -3 ahead of NONE", Start::fresh, StackedScript::narrowest, -3, wrong);
    }
}
