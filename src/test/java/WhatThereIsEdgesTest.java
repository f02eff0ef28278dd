/** Promises 10 to 15: each edge that the document names, with a test of its own. */
public final class WhatThereIsEdgesTest {
    private static final Class<IllegalArgumentException> ARGUMENT = IllegalArgumentException.class;
    private static final Class<IndexOutOfBoundsException> INDEX = IndexOutOfBoundsException.class;

    public static void main(String[] args) {
        Due.runAll(WhatThereIsEdgesTest.class);
    }

    /** Two windows and two ropes, behind 2 days of 2 soot for the columns 0 and 1, and of 1 for the others. */
    private static GlassRopes used() {
        GlassRopes x = new GlassRopes();
        x.window(0, 0, 2, 3, 4);
        x.window(1, 2, 3, 2, 9);
        x.rope(5, 6, true);
        x.rope(1, 9, false);
        x.feast(5, 4);
        x.setWind(1);
        x.pass(2);
        return x;
    }

    private static GlassRopes fullBehindDays() {
        GlassRopes x = Due.full();
        x.pass(3);
        return x;
    }

    /** One window of all panes, one of all but the pane (11, 7), and one of this pane. */
    private static GlassRopes covered() {
        GlassRopes x = new GlassRopes();
        x.window(0, 0, 12, 8, 9);
        x.window(0, 0, 11, 8, 1);
        x.window(11, 0, 1, 7, 1);
        x.window(11, 7, 1, 1, 1);
        return x;
    }

    // ---- promise 10

    private static void sootColumn() {
        Due.words("Promise 10", "if column is not 0 to 11");
        Due.same("soot(0, 0)", used().soot(0, 0), 4);
        Due.same("soot(11, 0)", used().soot(11, 0), 2);
        Due.refusesEach(INDEX, "soot(?, 0)", new int[] {-1, 12, -12, 13, Due.MIN, Due.MAX}, WhatThereIsEdgesTest::used,
            (x, column) -> x.soot(column, 0));
        Due.refusesEach(INDEX, "soot(?, 7)", new int[] {-1, 12, Due.MIN, Due.MAX}, WhatThereIsEdgesTest::used,
            (x, column) -> x.soot(column, 7));
    }

    private static void sootRow() {
        Due.words("Promise 10", "or row is not 0 to 7");
        Due.same("soot(1, 0)", used().soot(1, 0), 2);
        Due.same("soot(1, 7)", used().soot(1, 7), 4);
        Due.refusesEach(INDEX, "soot(0, ?)", new int[] {-1, 8, -8, 9, 11, Due.MIN, Due.MAX}, WhatThereIsEdgesTest::used,
            (x, row) -> x.soot(0, row));
        Due.refusesEach(INDEX, "soot(11, ?)", new int[] {-1, 8, Due.MIN, Due.MAX}, WhatThereIsEdgesTest::used,
            (x, row) -> x.soot(11, row));
    }

    private static void sootLeastAndMost() {
        Due.words("Glass", "each pane has soot, 0 to 20 (0, at first)");
        GlassRopes x = covered();
        Due.same("soot(11, 7), at first", x.soot(11, 7), 0);
        x.pass(40);
        Due.same("soot(11, 7) behind 40 days", x.soot(11, 7), 20);
        x.wipe(3);
        Due.same("soot(11, 7), wiped", x.soot(11, 7), 0);
        Due.same("soot(11, 6), beside it", x.soot(11, 6), 20);
    }

    // ---- promise 11

    private static void aboutWithoutWindows() {
        Due.words("Promise 11", "if there is no such window");
        Due.refusesEach(INDEX, "about(?, 0)", new int[] {0, -1, 1}, GlassRopes::new, (x, window) -> x.about(window, 0));
    }

    private static void aboutWindow() {
        Due.words("Promise 11", "if there is no such window");
        Due.same("about(0, 0)", used().about(0, 0), 0);
        Due.same("about(1, 0)", used().about(1, 0), 1);
        Due.refusesEach(INDEX, "about(?, 0)", new int[] {-1, 2, 5, 6, Due.MIN, Due.MAX}, WhatThereIsEdgesTest::used,
            (x, window) -> x.about(window, 0));
        Due.same("about(5, 0) of six", Due.full().about(5, 0), 5);
        Due.refusesEach(INDEX, "about(?, 7) of six", new int[] {6, -1}, WhatThereIsEdgesTest::fullBehindDays,
            (x, window) -> x.about(window, 7));
    }

    private static void aboutWhat() {
        Due.words("Promise 11", "or what is not 0 to 7");
        Due.same("window 0", Due.windowState(used(), 0), "0 0 2 3 4 18 4 6");
        Due.same("window 1", Due.windowState(used(), 1), "1 2 3 2 9 10 2 44");
        Due.refusesEach(INDEX, "about(0, ?)", new int[] {-1, 8, Due.MIN, Due.MAX}, WhatThereIsEdgesTest::used,
            (x, what) -> x.about(0, what));
        Due.refuses(INDEX, "about(2, 8)", WhatThereIsEdgesTest::used, x -> x.about(2, 8));
    }

    private static void aboutSootLeastAndMost() {
        Due.words("Promise 11", "5 the soot of its panes, added, 6 the most soot on one of them");
        GlassRopes x = covered();
        Due.same("about(0, 5) on clean glass", x.about(0, 5), 0);
        Due.same("about(0, 6) on clean glass", x.about(0, 6), 0);
        x.pass(40);
        Due.same("about(0, 5) on full glass", x.about(0, 5), 1920);
        Due.same("about(0, 6) on full glass", x.about(0, 6), 20);
        x.wipe(1);
        x.wipe(2);
        Due.same("about(0, 5), all but one pane wiped", x.about(0, 5), 20);
        Due.same("about(0, 6), all but one pane wiped", x.about(0, 6), 20);
        Due.same("about(1, 6), wiped", x.about(1, 6), 0);
    }

    private static void aboutCoinsDownToNothing() {
        Due.words("Promise 11", "7 the coins that it would bring now");
        GlassRopes x = new GlassRopes();
        x.window(6, 6, 2, 2, 2);
        int[] due = {8, 4, 0, 0, 0};
        for (int day = 0; day < due.length; day++) {
            Due.same("about(0, 7) on the day " + day, x.about(0, 7), due[day]);
            x.pass(1);
        }
        Due.same("count(8): it would, but does not", x.count(8), 0);
    }

    // ---- promise 12

    private static void toldWithoutRopes() {
        Due.words("Promise 12", "if there is no such rope");
        Due.refusesEach(INDEX, "told(?, 0)", new int[] {0, -1, 1}, GlassRopes::new, (x, rope) -> x.told(rope, 0));
    }

    private static void toldRope() {
        Due.words("Promise 12", "if there is no such rope");
        Due.same("told(0, 0)", used().told(0, 0), 5);
        Due.same("told(1, 0)", used().told(1, 0), 1);
        Due.refusesEach(INDEX, "told(?, 0)", new int[] {-1, 2, 5, 6, Due.MIN, Due.MAX}, WhatThereIsEdgesTest::used,
            (x, rope) -> x.told(rope, 0));
        Due.same("told(5, 0) of six", Due.full().told(5, 0), 10);
        Due.refusesEach(INDEX, "told(?, 5) of six", new int[] {6, -1}, Due::full, (x, rope) -> x.told(rope, 5));
    }

    private static void toldWhat() {
        Due.words("Promise 12", "or what is not 0 to 5");
        Due.same("rope 0", Due.ropeState(used(), 0), "5 5 6 0 7 0");
        Due.same("rope 1", Due.ropeState(used(), 1), "1 4 9 1 14 0");
        Due.refusesEach(INDEX, "told(0, ?)", new int[] {-1, 6, 7, Due.MIN, Due.MAX}, WhatThereIsEdgesTest::used,
            (x, what) -> x.told(0, what));
        Due.refuses(INDEX, "told(2, 6)", WhatThereIsEdgesTest::used, x -> x.told(2, 6));
    }

    private static void toldWay() {
        Due.words("Ropes", "it moves to the right (way 0), or to the left (way 1)");
        GlassRopes x = new GlassRopes();
        x.rope(0, 1, true);
        x.rope(1, 1, false);
        Due.same("told(0, 3)", x.told(0, 3), 0);
        Due.same("told(1, 3)", x.told(1, 3), 1);
    }

    private static void toldMovesByHandAndByDays() {
        Due.words("Promise 12", "5 how often it was moved, by hand as well");
        GlassRopes x = new GlassRopes();
        x.rope(0, 18, true);
        Due.same("told(0, 5), at first: hanging it is no move", x.told(0, 5), 0);
        x.move(0, 4);
        Due.same("told(0, 5), by hand", x.told(0, 5), 1);
        x.pass(1);
        Due.same("told(0, 5), by a day", x.told(0, 5), 2);
        Due.same("move(0, 5), where it hangs", Due.answerOf(() -> x.move(0, 5)), "IllegalStateException");
        Due.same("told(0, 5), by a refused call", x.told(0, 5), 2);
    }

    // ---- promise 13

    private static void countWhat() {
        Due.words("Promise 13", "Throws `IndexOutOfBoundsException` if what is not 0 to 10");
        Due.same("count(0)", used().count(0), 2);
        Due.same("count(10)", used().count(10), 50);
        Due.refusesEach(INDEX, "count(?)", new int[] {-1, 11, -11, Due.MIN, Due.MAX}, WhatThereIsEdgesTest::used,
            (x, what) -> x.count(what));
    }

    private static void countOfFullThings() {
        Due.words("Promise 13", "1 windows, 2 ropes, 3 feasts");
        Due.same("count(1)", Due.full().count(1), 6);
        Due.same("count(2)", Due.full().count(2), 6);
        Due.same("count(3)", Due.full().count(3), 4);
    }

    private static void countOfSoot() {
        Due.words("Promise 13", "5 soot of all panes, added");
        GlassRopes x = covered();
        Due.same("on clean glass", x.count(5), 0);
        x.pass(40);
        Due.same("on full glass", x.count(5), 1920);
        x.wipe(1);
        x.wipe(2);
        Due.same("on one pane", x.count(5), 20);
    }

    private static void countOfCleanPanes() {
        Due.words("Promise 13", "6 panes without soot");
        GlassRopes x = covered();
        Due.same("on clean glass", x.count(6), 96);
        x.pass(1);
        Due.same("behind a day", x.count(6), 0);
        x.wipe(3);
        Due.same("one pane wiped", x.count(6), 1);
        x.wipe(0);
        Due.same("all wiped", x.count(6), 96);
    }

    private static void countOfSootCleanedOff() {
        Due.words("Promise 13", "7 soot cleaned off by all ropes in all");
        GlassRopes x = covered();
        x.pass(2);
        Due.same("without ropes", x.count(7), 0);
        x.wipe(0);
        Due.same("wiped by no rope", x.count(7), 0);
        x.rope(0, 1, true);
        x.rope(7, 3, true);
        x.pass(1);
        Due.same("by two ropes", x.count(7), 1 + 2);
    }

    private static void countOfFeastDaysWithoutWindows() {
        Due.words("Promise 13", "9 feast days that went by (without windows as well)");
        GlassRopes x = new GlassRopes();
        x.feast(3, 0);
        Due.same("on the day 0, which goes by next", x.count(9), 0);
        x.pass(1);
        Due.same("on the day 1", x.count(9), 1);
        x.pass(2);
        Due.same("on the day 3", x.count(9), 1);
        x.pass(1);
        Due.same("on the day 4", x.count(9), 2);
        Due.same("count(8)", x.count(8), 0);
    }

    private static void countOfFeastDaysThatBringNothing() {
        Due.words("Promise 13", "9 feast days that went by (without windows as well)");
        GlassRopes x = covered();
        x.pass(40);
        x.feast(2, 0);
        Due.same("pass(1)", x.pass(1), 0);
        Due.same("count(9)", x.count(9), 1);
    }

    private static void countOfDaysBeforeAFeast() {
        Due.words("Promise 13", "9 feast days that went by (without windows as well)");
        GlassRopes x = new GlassRopes();
        x.pass(10);
        x.feast(2, 0);
        Due.same("days went by before there was this feast", x.count(9), 0);
    }

    private static void countOfCoinsThatWindowsWouldBring() {
        Due.words("Promise 13", "10 the coins that all windows would bring now");
        GlassRopes x = covered();
        Due.same("on clean glass", x.count(10), 864 + 88 + 7 + 1);
        x.pass(1);
        Due.same("behind a day: three windows bring just nothing", x.count(10), 768);
        x.pass(8);
        Due.same("behind 9 days: all bring just nothing, or less", x.count(10), 0);
        x.wipe(3);
        Due.same("one pane wiped: none takes from another", x.count(10), 9 + 1);
        Due.same("count(8): they would, but do not", x.count(8), 0);
    }

    // ---- promise 14

    private static void isFeastDays() {
        Due.words("Promise 14", "Throws `IllegalArgumentException` if days is not 0 to 60");
        Due.answersEach("isFeast(?)", new int[] {2, 57}, 1, WhatThereIsEdgesTest::used, (x, days) -> x.isFeast(days));
        Due.answersEach("isFeast(?)", new int[] {0, 1, 59, 60}, 0, WhatThereIsEdgesTest::used, (x, days) -> x.isFeast(days));
        Due.refusesEach(ARGUMENT, "isFeast(?)", new int[] {-1, 61, -60, Due.MIN, Due.MAX}, WhatThereIsEdgesTest::used,
            (x, days) -> x.isFeast(days));
    }

    private static void isFeastOnTheDayThatGoesByNext() {
        Due.words("Promise 14", "(0: the one that goes by next)");
        GlassRopes x = new GlassRopes();
        x.feast(5, 2);
        for (int day = 0; day < 12; day++) {
            boolean due = day % 5 == 2;
            Due.same("on the day " + day + ": isFeast(0)", x.isFeast(0), due);
            int before = x.count(9);
            x.pass(1);
            Due.same("the day " + day + " is a feast day", x.count(9) > before, due);
        }
    }

    private static void isFeastBehindSixtyDays() {
        Due.words("Promise 14", "Returns whether the day that comes behind so many days is a feast day");
        GlassRopes x = new GlassRopes();
        x.feast(30, 0);
        Due.same("isFeast(0)", x.isFeast(0), true);
        Due.same("isFeast(29)", x.isFeast(29), false);
        Due.same("isFeast(30)", x.isFeast(30), true);
        Due.same("isFeast(59)", x.isFeast(59), false);
        Due.same("isFeast(60)", x.isFeast(60), true);
    }

    private static void isFeastOfEachFeast() {
        Due.words("Feasts", "A day is a feast day, if some feast is on it.");
        GlassRopes x = new GlassRopes();
        x.feast(30, 7);
        x.feast(30, 11);
        x.feast(30, 7);
        x.feast(30, 29);
        for (int days = 0; days <= 60; days++) {
            int rest = days % 30;
            Due.same("isFeast(" + days + ")", x.isFeast(days), rest == 7 || rest == 11 || rest == 29);
        }
    }

    // ---- promise 15

    private static void nextIsNow() {
        Due.words("Promise 15", "(0: the one that goes by next)");
        GlassRopes x = new GlassRopes();
        x.feast(2, 0);
        Due.same("on the day 0", x.next(), 0);
        x.pass(1);
        Due.same("on the day 1", x.next(), 1);
        x.pass(1);
        Due.same("on the day 2", x.next(), 0);
    }

    private static void nextWithoutFeasts() {
        Due.words("Promise 15", "-1 if there is none by then");
        GlassRopes x = new GlassRopes();
        Due.same("on the day 0", x.next(), -1);
        x.pass(40);
        Due.same("on the day 40", x.next(), -1);
        x.feast(30, 9);
        Due.same("with a feast", x.next(), 29);
    }

    private static void nextIsFarthest() {
        Due.words("Promise 15", "Returns behind how many days, 0 to 60, the next feast day comes");
        GlassRopes x = new GlassRopes();
        x.feast(30, 29);
        for (int day = 0; day < 60; day++) {
            Due.same("on the day " + day, x.next(), 29 - day % 30);
            x.pass(1);
        }
    }

    private static void nextOfSeveral() {
        Due.words("Promise 15", "the next feast day");
        GlassRopes x = new GlassRopes();
        x.feast(30, 12);
        x.feast(30, 5);
        x.feast(30, 20);
        Due.same("on the day 0", x.next(), 5);
        x.pass(6);
        Due.same("on the day 6", x.next(), 6);
        x.pass(7);
        Due.same("on the day 13", x.next(), 7);
        x.pass(8);
        Due.same("on the day 21", x.next(), 14);
    }
}
