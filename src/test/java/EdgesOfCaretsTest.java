/** The boundary cases that promises 26 to 30 name, sentence by sentence. */
public final class EdgesOfCaretsTest {
    private static final int NONE = StackedScript.NONE;
    private static final int LEAST = Integer.MIN_VALUE;
    private static final int GREATEST = Integer.MAX_VALUE;

    private EdgesOfCaretsTest() {
    }

    public static void main(String[] args) {
        promise26Stops();
        promise27Stop();
        promise28Next();
        promise28NextRefused();
        promise29X();
        promise30Hit();
        promise30HitNearest();
        Check.end();
    }

    private static boolean isStop(int place) {
        for (int stop : Start.STOPS) {
            if (stop == place) {
                return true;
            }
        }
        return false;
    }

    // "How many STOPS there are." ("place 0 and the ends of all clusters")
    private static void promise26Stops() {
        Check.due("of none", Start.fresh().stops(), 1);
        Check.due("of no text", Start.noText().stops(), 1);
        Whole.unchanged("some", Start::some, StackedScript::stops, 9);
        Check.due("of sixty letters", Start.full().stops(), 16);
        Check.due("of sixty clusters", Check.told(Check.times("x", 60)).stops(), 61);
        Check.due("of one cluster", Check.told(Check.times("kh", 30)).stops(), 2);
    }

    // "The i-th STOP. NONE: not so many; -3: i is below 0."
    private static void promise27Stop() {
        Whole.eachUnchanged("stop", Start::some, StackedScript::stop, -3, LEAST, -2, -1);
        Whole.eachUnchanged("stop", Start::some, StackedScript::stop, NONE, 9, 10, 60, 61, GREATEST);
        Whole.eachUnchanged("stop of none", Start::noText, StackedScript::stop, NONE, 1, 2, GREATEST);
        Check.due("the stop of none", Start.fresh().stop(0), 0);
        Check.row("some", Start.some()::stop, Start.STOPS);
        StackedScript sixty = Check.told(Check.times("x", 60));
        Check.due("the last of sixty", sixty.stop(60), 60);
        Check.due("behind it", sixty.stop(61), NONE);
    }

    // "From a place the nearest STOP above it (by 1), below it (by -1). NONE: there is none"
    private static void promise28Next() {
        for (int place = 0; place <= 20; place++) {
            int above = NONE;
            int below = NONE;
            for (int stop : Start.STOPS) {
                above = above == NONE && stop > place ? stop : above;
                below = stop < place ? stop : below;
            }
            Check.due("above " + place, Start.some().next(place, 1), above);
            Check.due("below " + place, Start.some().next(place, -1), below);
        }
        Whole.unchanged("none above the last", Start::some, s -> s.next(20, 1), NONE);
        Whole.unchanged("none below the first", Start::some, s -> s.next(0, -1), NONE);
        Check.due("none above", Start.fresh().next(0, 1), NONE);
        Check.due("none below", Start.fresh().next(0, -1), NONE);
        Check.due("none above sixty", Start.full().next(60, 1), NONE);
        Check.due("below sixty", Start.full().next(60, -1), 56);
    }

    // "-3: by; -5: the place (0 to how many LETTERS)."
    private static void promise28NextRefused() {
        int[] byNone = {LEAST, -3, -2, 0, 2, 3, GREATEST};
        Whole.eachUnchanged("next by", Start::some, (s, by) -> s.next(3, by), -3, byNone);
        Whole.eachUnchanged("-3 ahead of -5", Start::some, (s, by) -> s.next(21, by), -3, byNone);
        Whole.eachUnchanged("-3 ahead of NONE", Start::some, (s, by) -> s.next(20, by), -3, byNone);
        for (int by : new int[] {-1, 1}) {
            Whole.eachUnchanged("by " + by, Start::some, (s, at) -> s.next(at, by), -5, LEAST, -2, -1, 21, 22, GREATEST);
            Whole.eachUnchanged("of none by " + by, Start::noText, (s, at) -> s.next(at, by), -5, LEAST, -1, 1, GREATEST);
            Whole.eachUnchanged("of sixty by " + by, Start::full, (s, at) -> s.next(at, by), -5, -1, 61);
        }
    }

    // "X of a STOP. -5: it is none."
    private static void promise29X() {
        for (int i = 0; i < Start.STOPS.length; i++) {
            Check.due("x of " + Start.STOPS[i], Start.some().x(Start.STOPS[i]), Start.XS[i]);
        }
        for (int place = -2; place <= 23; place++) {
            if (!isStop(place)) {
                int asked = place;
                Whole.unchanged("x of no stop " + place, Start::some, s -> s.x(asked), -5);
            }
        }
        Whole.eachUnchanged("x", Start::some, StackedScript::x, -5, LEAST, GREATEST);
        Whole.eachUnchanged("x of none", Start::noText, StackedScript::x, -5, LEAST, -1, 1, GREATEST);
        Check.due("x of the stop of none", Start.fresh().x(0), 0);
        Check.due("x behind sixty", Start.full().x(60), 135);
        Check.due("x of the first of sixty", Start.full().x(0), 0);
        Check.due("the widest", Check.told(Check.times("oe", 30)).x(60), 330);
    }

    // "-3: x is below 0, above 999."
    private static void promise30Hit() {
        Whole.eachUnchanged("hit", Start::some, StackedScript::hit, -3, LEAST, -2, -1, 1000, 1001, GREATEST);
        Whole.eachUnchanged("hit of none", Start::noText, StackedScript::hit, -3, LEAST, -1, 1000, GREATEST);
        Whole.unchanged("the least", Start::some, s -> s.hit(0), 0);
        Whole.unchanged("the greatest", Start::some, s -> s.hit(999), 19);
        Check.due("of none the least", Start.fresh().hit(0), 0);
        Check.due("of none the greatest", Start.fresh().hit(999), 0);
    }

    // "The STOP whose X is nearest to x (of like ones the least place)."
    private static void promise30HitNearest() {
        for (int x = 0; x <= 45; x++) {
            int nearest = 0;
            for (int i = 1; i < Start.STOPS.length; i++) {
                if (Math.abs(Start.XS[i] - x) < Math.abs(Start.XS[nearest] - x)) {
                    nearest = i;
                }
            }
            Check.due("hit " + x, Start.some().hit(x), Start.STOPS[nearest]);
        }
        // 19 and 20 are at one X.
        Check.due("of like ones the least", Start.some().hit(33), 19);
        Check.due("in the middle", Check.told("kkk").hit(6), 1);
        Check.due("ahead of it", Check.told("kkk").hit(5), 1);
        Check.due("behind it", Check.told("kkk").hit(7), 2);
        Check.due("an odd middle, below", Check.told("x").hit(1), 0);
        Check.due("an odd middle, above", Check.told("x").hit(2), 1);
        Check.due("none are wide", Check.told("jbj").hit(999), 0);
        Check.due("wide behind some that aren't", Check.told("jbk").hit(3), 3);
        Check.due("the middle of these", Check.told("jbk").hit(2), 0);
        Check.due("sixty", Check.told(Check.times("e", 60)).hit(240), 60);
        Check.due("sixty, ahead", Check.told(Check.times("e", 60)).hit(238), 59);
    }
}
