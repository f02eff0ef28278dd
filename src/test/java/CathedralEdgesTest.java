/** Promises 1 to 5: each edge that the document names, with a test of its own. */
public final class CathedralEdgesTest {
    private static final Class<IllegalArgumentException> ARGUMENT = IllegalArgumentException.class;
    private static final Class<IndexOutOfBoundsException> INDEX = IndexOutOfBoundsException.class;
    private static final Class<IllegalStateException> STATE = IllegalStateException.class;

    public static void main(String[] args) {
        Due.runAll(CathedralEdgesTest.class);
    }

    /** On the day 4; rope 0 hangs at 3 as at first, rope 1 went from 0 to 11. */
    private static GlassRopes used() {
        GlassRopes x = new GlassRopes();
        x.window(1, 2, 3, 2, 9);
        x.rope(3, 7, true);
        x.rope(0, 12, false);
        x.feast(5, 2);
        x.setWind(-3);
        x.pass(4);
        return x;
    }

    private static GlassRopes movedByHand() {
        GlassRopes x = used();
        x.move(0, 8);
        return x;
    }

    // ---- promise 1

    private static void newGlassIsClean() {
        Due.words("Promise 1", "Creates clean glass");
        GlassRopes x = new GlassRopes();
        for (int row = 0; row < 8; row++) {
            Due.same("the row " + row, Due.rowState(x, row), "0,0,0,0,0,0,0,0,0,0,0,0");
        }
        Due.same("count(5)", x.count(5), 0);
        Due.same("count(6)", x.count(6), 96);
    }

    private static void newGlassHasNoWindows() {
        Due.words("Promise 1", "without windows, ropes and feasts");
        Due.same("count(1)", new GlassRopes().count(1), 0);
        Due.same("count(10)", new GlassRopes().count(10), 0);
        Due.refuses(INDEX, "about(0, 0)", GlassRopes::new, x -> x.about(0, 0));
    }

    private static void newGlassHasNoRopes() {
        Due.words("Promise 1", "without windows, ropes and feasts");
        Due.same("count(2)", new GlassRopes().count(2), 0);
        Due.same("count(7)", new GlassRopes().count(7), 0);
        Due.refuses(INDEX, "told(0, 0)", GlassRopes::new, x -> x.told(0, 0));
    }

    private static void newGlassHasNoFeasts() {
        Due.words("Promise 1", "without windows, ropes and feasts");
        GlassRopes x = new GlassRopes();
        Due.same("count(3)", x.count(3), 0);
        Due.same("next()", x.next(), -1);
        for (int days = 0; days <= 60; days++) {
            Due.same("isFeast(" + days + ")", x.isFeast(days), false);
        }
    }

    private static void newGlassIsOnTheDayZero() {
        Due.words("Promise 1", "on the day 0");
        GlassRopes x = new GlassRopes();
        Due.same("count(0)", x.count(0), 0);
        Due.same("feast(30, 0)", x.feast(30, 0), 0);
        Due.same("isFeast(0)", x.isFeast(0), true);
        Due.same("count(8)", x.count(8), 0);
        Due.same("count(9)", x.count(9), 0);
    }

    private static void newGlassHasNoWind() {
        Due.words("Wind", "From -5 to 5 (0, at first)");
        GlassRopes x = new GlassRopes();
        Due.same("count(4)", x.count(4), 0);
        Due.same("setWind(0)", x.setWind(0), 0);
    }

    // ---- promise 2

    private static void windowWidth() {
        Due.words("Promise 2", "if w is not 1 to 12");
        Due.answersEach("window(0, 0, ?, 1, 1)", new int[] {1, 2, 11, 12}, 1, CathedralEdgesTest::used,
            (x, w) -> x.window(0, 0, w, 1, 1));
        Due.refusesEach(ARGUMENT, "window(0, 0, ?, 1, 1)", new int[] {0, 13, -1, 14, -12, Due.MIN, Due.MAX},
            CathedralEdgesTest::used, (x, w) -> x.window(0, 0, w, 1, 1));
    }

    private static void windowHeight() {
        Due.words("Promise 2", "h is not 1 to 8");
        Due.answersEach("window(0, 0, 1, ?, 1)", new int[] {1, 2, 7, 8}, 1, CathedralEdgesTest::used,
            (x, h) -> x.window(0, 0, 1, h, 1));
        Due.refusesEach(ARGUMENT, "window(0, 0, 1, ?, 1)", new int[] {0, 9, -1, 12, -8, Due.MIN, Due.MAX},
            CathedralEdgesTest::used, (x, h) -> x.window(0, 0, 1, h, 1));
    }

    private static void windowWorth() {
        Due.words("Promise 2", "or worth is not 1 to 9");
        Due.answersEach("window(0, 0, 1, 1, ?)", new int[] {1, 2, 8, 9}, 1, CathedralEdgesTest::used,
            (x, worth) -> x.window(0, 0, 1, 1, worth));
        Due.refusesEach(ARGUMENT, "window(0, 0, 1, 1, ?)", new int[] {0, 10, -1, -9, Due.MIN, Due.MAX},
            CathedralEdgesTest::used, (x, worth) -> x.window(0, 0, 1, 1, worth));
    }

    private static void windowOutsideOnTheLeft() {
        Due.words("Promise 2", "if some pane of it would not be there");
        Due.refusesEach(INDEX, "window(?, 0, 1, 1, 1)", new int[] {-1, -2, Due.MIN}, CathedralEdgesTest::used,
            (x, left) -> x.window(left, 0, 1, 1, 1));
        Due.refusesEach(INDEX, "window(?, 0, 12, 1, 1)", new int[] {-1, -11, -12, Due.MIN}, CathedralEdgesTest::used,
            (x, left) -> x.window(left, 0, 12, 1, 1));
    }

    private static void windowOutsideOnTheRight() {
        Due.words("Promise 2", "if some pane of it would not be there");
        for (int w = 1; w <= 12; w++) {
            int wide = w;
            Due.answersEach("window(?, 0, " + w + ", 1, 1)", new int[] {12 - w}, 1, CathedralEdgesTest::used,
                (x, left) -> x.window(left, 0, wide, 1, 1));
            Due.refusesEach(INDEX, "window(?, 0, " + w + ", 1, 1)", new int[] {13 - w, 12, Due.MAX, Due.MAX - w},
                CathedralEdgesTest::used, (x, left) -> x.window(left, 0, wide, 1, 1));
        }
    }

    private static void windowOutsideAbove() {
        Due.words("Promise 2", "if some pane of it would not be there");
        Due.refusesEach(INDEX, "window(0, ?, 1, 1, 1)", new int[] {-1, -2, Due.MIN}, CathedralEdgesTest::used,
            (x, top) -> x.window(0, top, 1, 1, 1));
        Due.refusesEach(INDEX, "window(0, ?, 1, 8, 1)", new int[] {-1, -7, -8, Due.MIN}, CathedralEdgesTest::used,
            (x, top) -> x.window(0, top, 1, 8, 1));
    }

    private static void windowOutsideBelow() {
        Due.words("Promise 2", "if some pane of it would not be there");
        for (int h = 1; h <= 8; h++) {
            int high = h;
            Due.answersEach("window(0, ?, 1, " + h + ", 1)", new int[] {8 - h}, 1, CathedralEdgesTest::used,
                (x, top) -> x.window(0, top, 1, high, 1));
            Due.refusesEach(INDEX, "window(0, ?, 1, " + h + ", 1)", new int[] {9 - h, 8, Due.MAX, Due.MAX - h},
                CathedralEdgesTest::used, (x, top) -> x.window(0, top, 1, high, 1));
        }
    }

    private static void windowOfEveryPane() {
        Due.words("Glass", "It has 12 columns, 0 to 11 from left to right, of 8 panes each");
        GlassRopes x = new GlassRopes();
        Due.same("window(0, 0, 12, 8, 9)", x.window(0, 0, 12, 8, 9), 0);
        Due.same("window 0", Due.windowState(x, 0), "0 0 12 8 9 0 0 864");
        x.pass(1);
        Due.same("about(0, 5) behind a day", x.about(0, 5), x.count(5));
    }

    private static void windowOfOnePaneInEachCorner() {
        Due.words("Windows", "each is a rectangle of panes");
        GlassRopes x = new GlassRopes();
        x.window(0, 0, 1, 1, 1);
        x.window(11, 0, 1, 1, 1);
        x.window(0, 7, 1, 1, 1);
        x.window(11, 7, 1, 1, 1);
        x.setWind(3);
        x.rope(0, 1, true);
        x.rope(11, 1, true);
        x.pass(1);
        int[] due = {3, 0, 4, 1};
        for (int window = 0; window < 4; window++) {
            Due.same("about(" + window + ", 5)", x.about(window, 5), due[window]);
        }
    }

    private static void windowsMayShareAllTheirPanes() {
        Due.words("Windows", "Windows may have panes together.");
        GlassRopes x = new GlassRopes();
        for (int number = 0; number < 6; number++) {
            Due.same("window(3, 3, 4, 4, 2), time " + number, x.window(3, 3, 4, 4, 2), number);
        }
        x.feast(2, 0);
        Due.same("pass(1)", x.pass(1), 6 * (32 - 16));
    }

    private static void windowNumbersBeginWithZero() {
        Due.words("Windows", "At most 6, numbered from 0");
        GlassRopes x = new GlassRopes();
        for (int number = 0; number < 6; number++) {
            Due.same("window " + number, x.window(number, number, 1, 2, 3), number);
            Due.same("count(1)", x.count(1), number + 1);
        }
    }

    private static void windowsAreSixAtMost() {
        Due.words("Promise 2", "Throws `IllegalStateException` if there are 6");
        Due.refuses(STATE, "a window above 6", Due::full, x -> x.window(0, 0, 1, 1, 1));
        Due.refuses(STATE, "a window above 6, as the first one", Due::full, x -> x.window(0, 0, 2, 3, 4));
    }

    private static void windowArgumentGoesBeforeIndex() {
        Due.words("Promise 2", "the one that is named first is thrown");
        Due.refuses(ARGUMENT, "window(-1, 0, 0, 1, 1)", CathedralEdgesTest::used, x -> x.window(-1, 0, 0, 1, 1));
        Due.refuses(ARGUMENT, "window(0, 8, 1, 9, 1)", CathedralEdgesTest::used, x -> x.window(0, 8, 1, 9, 1));
        Due.refuses(ARGUMENT, "window(12, -1, 1, 1, 10)", CathedralEdgesTest::used, x -> x.window(12, -1, 1, 1, 10));
        Due.refuses(ARGUMENT, "window(0, 0, 13, 1, 1), which has no place", CathedralEdgesTest::used,
            x -> x.window(0, 0, 13, 1, 1));
    }

    private static void windowArgumentGoesBeforeState() {
        Due.words("Promise 2", "the one that is named first is thrown");
        Due.refuses(ARGUMENT, "window(0, 0, 0, 1, 1) above 6", Due::full, x -> x.window(0, 0, 0, 1, 1));
        Due.refuses(ARGUMENT, "window(0, 0, 1, 9, 1) above 6", Due::full, x -> x.window(0, 0, 1, 9, 1));
        Due.refuses(ARGUMENT, "window(0, 0, 1, 1, 0) above 6", Due::full, x -> x.window(0, 0, 1, 1, 0));
        Due.refuses(ARGUMENT, "window(-1, -1, 1, 1, 0) above 6", Due::full, x -> x.window(-1, -1, 1, 1, 0));
    }

    private static void windowIndexGoesBeforeState() {
        Due.words("Promise 2", "the one that is named first is thrown");
        Due.refuses(INDEX, "window(11, 0, 2, 1, 1) above 6", Due::full, x -> x.window(11, 0, 2, 1, 1));
        Due.refuses(INDEX, "window(0, -1, 1, 1, 1) above 6", Due::full, x -> x.window(0, -1, 1, 1, 1));
    }

    // ---- promise 3

    private static void ropeColumn() {
        Due.words("Promise 3", "if column is not 0 to 11");
        Due.answersEach("rope(?, 4, true)", new int[] {0, 1, 10}, 2, CathedralEdgesTest::used,
            (x, column) -> x.rope(column, 4, true));
        Due.answersEach("rope(?, 4, true)", new int[] {0, 11}, 0, GlassRopes::new, (x, column) -> x.rope(column, 4, true));
        Due.refusesEach(INDEX, "rope(?, 4, true)", new int[] {-1, 12, -12, 13, Due.MIN, Due.MAX}, CathedralEdgesTest::used,
            (x, column) -> x.rope(column, 4, true));
    }

    private static void ropeStrength() {
        Due.words("Promise 3", "if strength is not 1 to 30");
        Due.answersEach("rope(5, ?, false)", new int[] {1, 2, 29, 30}, 2, CathedralEdgesTest::used,
            (x, strength) -> x.rope(5, strength, false));
        Due.refusesEach(ARGUMENT, "rope(5, ?, false)", new int[] {0, 31, -1, -30, Due.MIN, Due.MAX},
            CathedralEdgesTest::used, (x, strength) -> x.rope(5, strength, false));
    }

    private static void ropeNumbersBeginWithZero() {
        Due.words("Ropes", "At most 6, numbered likewise");
        GlassRopes x = new GlassRopes();
        for (int number = 0; number < 6; number++) {
            Due.same("rope " + number, x.rope(11 - number, 1 + number, number % 2 == 1), number);
            Due.same("count(2)", x.count(2), number + 1);
        }
        for (int number = 0; number < 6; number++) {
            Due.same("rope " + number, Due.ropeState(x, number),
                (11 - number) + " 0 " + (1 + number) + " " + (1 - number % 2) + " 0 0");
        }
    }

    private static void ropesAreSixAtMost() {
        Due.words("Promise 3", "if there are 6");
        Due.refusesEach(STATE, "rope(?, 4, true), a rope above 6, at a free column", new int[] {1, 3, 11}, Due::full,
            (x, column) -> x.rope(column, 4, true));
    }

    private static void ropeWhereOneHangs() {
        Due.words("Promise 3", "or a rope hangs there");
        Due.refuses(STATE, "rope(3, 9, false), where rope 0 hangs", CathedralEdgesTest::used, x -> x.rope(3, 9, false));
        Due.refuses(STATE, "rope(3, 7, true), the same as rope 0", CathedralEdgesTest::used, x -> x.rope(3, 7, true));
    }

    private static void ropeWhereOneCameOnSomeDay() {
        Due.words("Promise 3", "or a rope hangs there");
        Due.same("told(1, 0)", used().told(1, 0), 11);
        Due.refuses(STATE, "rope(11, 9, false), to which rope 1 went", CathedralEdgesTest::used, x -> x.rope(11, 9, false));
        Due.same("rope(0, 9, false), from which rope 1 went", used().rope(0, 9, false), 2);
    }

    private static void ropeWhereOneWasMovedByHand() {
        Due.words("Promise 3", "or a rope hangs there");
        Due.refuses(STATE, "rope(8, 9, true), to which rope 0 was moved", CathedralEdgesTest::movedByHand,
            x -> x.rope(8, 9, true));
        Due.same("rope(3, 9, true), from which rope 0 was moved", movedByHand().rope(3, 9, true), 2);
    }

    private static void ropeIndexGoesBeforeArgument() {
        Due.words("Promise 3", "the one that is named first is thrown");
        Due.refuses(INDEX, "rope(-1, 0, true)", CathedralEdgesTest::used, x -> x.rope(-1, 0, true));
        Due.refuses(INDEX, "rope(12, 31, true)", CathedralEdgesTest::used, x -> x.rope(12, 31, true));
    }

    private static void ropeIndexGoesBeforeState() {
        Due.words("Promise 3", "the one that is named first is thrown");
        Due.refuses(INDEX, "rope(12, 4, true) above 6", Due::full, x -> x.rope(12, 4, true));
        Due.refuses(INDEX, "rope(-1, 31, true) above 6", Due::full, x -> x.rope(-1, 31, true));
    }

    private static void ropeArgumentGoesBeforeState() {
        Due.words("Promise 3", "the one that is named first is thrown");
        Due.refuses(ARGUMENT, "rope(1, 31, true) above 6", Due::full, x -> x.rope(1, 31, true));
        Due.refuses(ARGUMENT, "rope(3, 0, true), where rope 0 hangs", CathedralEdgesTest::used, x -> x.rope(3, 0, true));
        Due.refuses(ARGUMENT, "rope(0, 0, true) above 6, where rope 0 hangs", Due::full, x -> x.rope(0, 0, true));
    }

    // ---- promise 4

    private static void feastEvery() {
        Due.words("Promise 4", "if every is not 2 to 30");
        Due.answersEach("feast(?, 0)", new int[] {2, 3, 29, 30}, 1, CathedralEdgesTest::used, (x, every) -> x.feast(every, 0));
        Due.refusesEach(ARGUMENT, "feast(?, 0)", new int[] {1, 0, 31, -1, -2, -30, Due.MIN, Due.MAX},
            CathedralEdgesTest::used, (x, every) -> x.feast(every, 0));
    }

    private static void feastOnTooSmall() {
        Due.words("Promise 4", "or on is not 0 to every - 1");
        Due.refusesEach(ARGUMENT, "feast(9, ?)", new int[] {-1, -8, -9, Due.MIN}, CathedralEdgesTest::used,
            (x, on) -> x.feast(9, on));
        Due.refuses(ARGUMENT, "feast(-3, -4)", CathedralEdgesTest::used, x -> x.feast(-3, -4));
    }

    private static void feastOnTooLarge() {
        Due.words("Promise 4", "or on is not 0 to every - 1");
        for (int e = 2; e <= 30; e++) {
            int every = e;
            Due.answersEach("feast(" + e + ", ?)", new int[] {0, e - 1}, 1, CathedralEdgesTest::used,
                (x, on) -> x.feast(every, on));
            Due.refusesEach(ARGUMENT, "feast(" + e + ", ?)", new int[] {e, e + 1, Due.MAX}, CathedralEdgesTest::used,
                (x, on) -> x.feast(every, on));
        }
    }

    private static void feastNumbersBeginWithZero() {
        Due.words("Feasts", "At most 4, numbered likewise");
        GlassRopes x = new GlassRopes();
        for (int number = 0; number < 4; number++) {
            Due.same("feast " + number, x.feast(30 - number, 2 * number), number);
            Due.same("count(3)", x.count(3), number + 1);
        }
    }

    private static void feastsAreFourAtMost() {
        Due.words("Promise 4", "Throws `IllegalStateException` if there are 4");
        Due.refuses(STATE, "a feast above 4", Due::full, x -> x.feast(30, 29));
        Due.refuses(STATE, "a feast above 4, as the first one", Due::full, x -> x.feast(5, 0));
    }

    private static void feastArgumentGoesBeforeState() {
        Due.words("Promise 4", "the one that is named first is thrown");
        Due.refuses(ARGUMENT, "feast(1, 0) above 4", Due::full, x -> x.feast(1, 0));
        Due.refuses(ARGUMENT, "feast(3, 3) above 4", Due::full, x -> x.feast(3, 3));
        Due.refuses(ARGUMENT, "feast(3, -1) above 4", Due::full, x -> x.feast(3, -1));
    }

    private static void feastOfTheDayThatGoesByNext() {
        Due.words("Feasts", "each is on all days of which the remainder by a number, 2 to 30, is some number");
        GlassRopes x = new GlassRopes();
        x.pass(29);
        x.feast(30, 29);
        Due.same("on the day 29: next()", x.next(), 0);
        x.pass(1);
        Due.same("on the day 30: count(9)", x.count(9), 1);
        Due.same("on the day 30: next()", x.next(), 29);
        x.feast(30, 0);
        Due.same("on the day 30 of feast(30, 0): next()", x.next(), 0);
    }

    // ---- promise 5

    private static void windSmallestAndGreatest() {
        Due.words("Promise 5", "if wind is not -5 to 5");
        Due.answersEach("setWind(?)", new int[] {-5, -4, 0, 4, 5}, -3, CathedralEdgesTest::used, (x, wind) -> x.setWind(wind));
        Due.refusesEach(ARGUMENT, "setWind(?)", new int[] {-6, 6, Due.MIN, Due.MAX}, CathedralEdgesTest::used,
            (x, wind) -> x.setWind(wind));
    }

    private static void windAnswersTheOneBefore() {
        Due.words("Promise 5", "Returns the one before.");
        GlassRopes x = new GlassRopes();
        Due.same("setWind(5), the first time", x.setWind(5), 0);
        Due.same("setWind(5), as it is already", x.setWind(5), 5);
        Due.same("setWind(-5)", x.setWind(-5), 5);
        Due.same("setWind(6)", Due.answerOf(() -> x.setWind(6)), "IllegalArgumentException");
        Due.same("setWind(0) behind a refused one", x.setWind(0), -5);
        Due.same("count(4)", x.count(4), 0);
    }

    private static void windBlowsFromNowOn() {
        Due.words("Promise 5", "the wind from now on");
        GlassRopes x = new GlassRopes();
        x.setWind(5);
        x.setWind(0);
        x.setWind(1);
        Due.same("before a day", Due.rowState(x, 0), "0,0,0,0,0,0,0,0,0,0,0,0");
        x.pass(1);
        Due.same("behind a day", Due.rowState(x, 0), "2,2,1,1,1,1,1,1,1,1,1,1");
    }
}
