/** Promises 26 to 30: carets. */
public final class CaretsTest {
    private static final int NONE = StackedScript.NONE;

    private CaretsTest() {
    }

    public static void main(String[] args) {
        stops();
        nextStops();
        xs();
        hits();
        Check.end();
    }

    /** ki 6 wide, jj none, khsi 7, e 4. */
    private static StackedScript some() {
        return Check.told("kijjkhsie");
    }

    private static void stops() {
        StackedScript s = some();
        Check.due("stops", s.stops(), 6);
        Check.row("stop", s::stop, 0, 2, 3, 4, 8, 9, NONE, NONE);
        Check.due("below", s.stop(-1), -3);
        Check.due("far", s.stop(Integer.MAX_VALUE), NONE);
        Check.due("least", s.stop(Integer.MIN_VALUE), -3);
        StackedScript none = Check.told("");
        Check.due("one stop", none.stops(), 1);
        Check.row("it", none::stop, 0, NONE);
        Check.due("of sixty", Check.told(Check.times("k", 60)).stops(), 61);
        Check.due("the last of sixty", Check.told(Check.times("k", 60)).stop(60), 60);
    }

    private static void nextStops() {
        StackedScript s = some();
        Check.row("above", at -> s.next(at, 1), 2, 2, 3, 4, 8, 8, 8, 8, 9, NONE, -5);
        Check.row("below", at -> s.next(at, -1), NONE, 0, 0, 2, 3, 4, 4, 4, 4, 8, -5);
        Check.due("by 0", s.next(0, 0), -3);
        Check.due("by 2", s.next(0, 2), -3);
        Check.due("by -2", s.next(0, -2), -3);
        Check.due("by ahead of the place", s.next(-1, 3), -3);
        Check.due("the place", s.next(-1, 1), -5);
        Check.due("far", s.next(Integer.MAX_VALUE, -1), -5);
        Check.due("none at all", Check.told("").next(0, 1), NONE);
        Check.due("none at all", Check.told("").next(0, -1), NONE);
    }

    private static void xs() {
        StackedScript s = some();
        Check.row("x", s::x, 0, -5, 6, 6, 6, -5, -5, -5, 13, 17, -5);
        Check.due("below", s.x(-1), -5);
        Check.due("far", s.x(Integer.MAX_VALUE), -5);
        Check.due("of none", Check.told("").x(0), 0);
        Check.due("widest", Check.told(Check.times("oe", 30)).x(60), 330);
    }

    private static void hits() {
        StackedScript s = some();
        // Stops at x 0, 6 (places 2, 3, 4), 13, 17.
        Check.row("hit", s::hit, 0, 0, 0, 0, 2, 2, 2, 2, 2, 2, 8, 8, 8, 8, 8, 8, 9, 9, 9);
        Check.due("far", s.hit(999), 9);
        Check.due("too far", s.hit(1000), -3);
        Check.due("below", s.hit(-1), -3);
        Check.due("least", s.hit(Integer.MIN_VALUE), -3);
        Check.due("of none", Check.told("").hit(999), 0);
        Check.due("none wide", Check.told("jjj").hit(0), 0);
        Check.due("none wide, far", Check.told("jjj").hit(5), 0);
        Check.due("a middle goes to the lesser", Check.told("kk").hit(2), 0);
        Check.due("a middle goes to the lesser", Check.told("kk").hit(6), 1);
        Check.due("behind a middle", Check.told("kk").hit(7), 2);
    }
}
