/** Promises 31 to 35: lines. */
public final class LinesTest {
    private static final int NONE = StackedScript.NONE;

    private LinesTest() {
    }

    public static void main(String[] args) {
        greedy();
        even();
        alikeSquares();
        narrowest();
        refused();
        noneAtAll();
        Check.end();
    }

    private static void lines(String text, int w, int... ends) {
        StackedScript s = Check.told(text);
        Check.due("lines(" + w + ") of " + text, s.lines(w), ends.length);
        Check.row("lineEnd of " + text, i -> s.lineEnd(w, i), ends);
        Check.due("lineEnd behind of " + text, s.lineEnd(w, ends.length), NONE);
    }

    private static void greedy() {
        lines("", 1);
        lines("kkk", 4, 1, 2, 3);
        lines("kkk", 7, 1, 2, 3);
        lines("kkk", 8, 2, 3);
        lines("kkk", 11, 2, 3);
        lines("kkk", 12, 3);
        lines("kkk", 200, 3);
        lines("kjkj", 4, 2, 4);
        lines("jkj", 4, 3);
        lines("jjj", 1, 3);
        lines("kikka", 6, 2, 3, 5);
        lines("kikka", 10, 3, 5);
        lines("xxkx", 6, 2, 3, 4);
        StackedScript s = Check.told("kikki");
        Check.due("wider than w", s.lines(5), NONE);
        Check.due("wider than w", s.lineEnd(5, 0), NONE);
        Check.due("one wider at the end alone", Check.told("kki").lines(5), NONE);
        Check.due("its ends", Check.told("kki").lineEnd(5, 0), NONE);
        // A cluster of 4 + 59 * 4 wide.
        Check.due("none will do", Check.told("k" + Check.times("o", 59)).lines(200), NONE);
        Check.due("sixty lines", Check.told(Check.times("k", 60)).lines(4), 60);
        Check.due("the sixtieth", Check.told(Check.times("k", 60)).lineEnd(4, 59), 60);
    }

    private static void even(String text, int w, int squares, int... ends) {
        StackedScript s = Check.told(text);
        Check.due("even(" + w + ") of " + text, s.even(w), squares);
        Check.row("evenEnd of " + text, i -> s.evenEnd(w, i), ends);
        Check.due("evenEnd behind of " + text, s.evenEnd(w, ends.length), NONE);
    }

    private static void even() {
        even("", 1, 0);
        even("kkk", 4, 0, 1, 2, 3);
        even("kkk", 12, 0, 3);
        even("xke", 8, 1, 2, 3);
        even("kkki", 8, 0, 2, 4);
        // 4, 3, 3, 7 wide: greedy leaves 1 and 5, evenly 4 and 2.
        lines("kxxkhsi", 8, 2, 3, 7);
        even("kxxkhsi", 8, 20, 1, 3, 7);
    }

    private static void alikeSquares() {
        // The last line's rest doesn't count.
        even("kkkk", 12, 0, 3, 4);
        // 4, 3, 4, 7 wide: 0 and 3 are left, or 3 and 0; the first break as late as can be.
        even("kxkkhsi", 7, 9, 2, 3, 7);
        // The first break alike, the next one as late as can be.
        even("khsikxkkhsi", 7, 9, 4, 6, 7, 11);
        // As the rest of the last line doesn't count, its break may be as late as can be.
        even("kjkj", 4, 0, 2, 4);
        even("kkkkk", 10, 8, 2, 4, 5);
        // Three of 4 on 10: both breaks leave a rest: one letter 36, two letters 4.
        even("kkk", 10, 4, 2, 3);
        // Clusters that are 0 wide go to the line ahead.
        even("kjk", 4, 0, 2, 3);
        even("kj", 4, 0, 2);
        even("kjjkjj", 4, 0, 3, 6);
        StackedScript s = Check.told("kikki");
        Check.due("wider than w", s.even(5), NONE);
        Check.due("wider than w", s.evenEnd(5, 0), NONE);
        Check.due("one wider at the end alone", Check.told("kki").even(5), NONE);
        Check.due("sixty lines", Check.told(Check.times("k", 60)).even(5), 59);
        Check.due("most", Check.told(Check.times("k", 60)).even(7), 59 * 9);
        Check.due("the sixtieth", Check.told(Check.times("k", 60)).evenEnd(7, 59), 60);
    }

    private static void narrowest() {
        StackedScript s = Check.told("kikka");
        // 6, 4, 6 wide.
        Check.due("one line", s.narrowest(1), 16);
        Check.due("two", s.narrowest(2), 10);
        Check.due("three", s.narrowest(3), 6);
        Check.due("more than there are clusters", s.narrowest(60), 6);
        Check.due("none", s.narrowest(0), -3);
        Check.due("too many", s.narrowest(61), -3);
        Check.due("least", s.narrowest(Integer.MIN_VALUE), -3);
        Check.due("no clusters", Check.told("").narrowest(1), NONE);
        Check.due("no clusters, a wrong number", Check.told("").narrowest(61), -3);
        Check.due("nothing wide", Check.told("jj").narrowest(1), 1);
        Check.due("wider than 200", Check.told("k" + Check.times("o", 59)).narrowest(60), NONE);
        Check.due("just 200", Check.told(Check.times("k", 50)).narrowest(1), 200);
        Check.due("above 200", Check.told(Check.times("k", 50) + "x").narrowest(1), NONE);
        Check.due("on two", Check.told(Check.times("k", 50) + "x").narrowest(2), 103);
    }

    private static void refused() {
        StackedScript s = Check.told("k");
        int[] wrong = {0, -1, 201, Integer.MIN_VALUE, Integer.MAX_VALUE};
        for (int w : wrong) {
            Check.due("lines", s.lines(w), -3);
            Check.due("lineEnd", s.lineEnd(w, 0), -3);
            Check.due("even", s.even(w), -3);
            Check.due("evenEnd", s.evenEnd(w, 0), -3);
        }
        Check.due("lineEnd below", s.lineEnd(4, -1), -3);
        Check.due("evenEnd below", s.evenEnd(4, -1), -3);
        Check.due("-3 ahead of NONE", s.lineEnd(3, -1), -3);
        Check.due("-3 ahead of NONE", s.evenEnd(3, -1), -3);
        Check.due("lineEnd far", s.lineEnd(4, Integer.MAX_VALUE), NONE);
        Check.due("evenEnd far", s.evenEnd(4, Integer.MAX_VALUE), NONE);
    }

    private static void noneAtAll() {
        StackedScript s = new StackedScript();
        Check.due("lines", s.lines(200), 0);
        Check.due("lineEnd", s.lineEnd(200, 0), NONE);
        Check.due("even", s.even(200), 0);
        Check.due("evenEnd", s.evenEnd(200, 0), NONE);
        Check.due("lines refused", s.lines(201), -3);
        Check.due("even refused", s.even(0), -3);
    }
}
