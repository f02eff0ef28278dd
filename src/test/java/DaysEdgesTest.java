/** The terms, how a day goes, and promise 9: each edge that the document names, with a test of its own. */
public final class DaysEdgesTest {
    private static final Class<IllegalArgumentException> ARGUMENT = IllegalArgumentException.class;

    public static void main(String[] args) {
        Due.runAll(DaysEdgesTest.class);
    }

    private static GlassRopes behindDays(int days) {
        GlassRopes x = new GlassRopes();
        x.pass(days);
        return x;
    }

    private static GlassRopes windy(int wind, int days) {
        GlassRopes x = new GlassRopes();
        x.setWind(wind);
        x.pass(days);
        return x;
    }

    private static String rope(int column, int strength, boolean right) {
        GlassRopes x = new GlassRopes();
        x.rope(column, strength, right);
        x.pass(1);
        return Due.ropeState(x, 0);
    }

    // ---- step 1: soot

    private static void windOfNothing() {
        Due.words("Day, step 1", "Each pane gets 1 more soot");
        GlassRopes x = behindDays(1);
        for (int row = 0; row < 8; row++) {
            Due.same("the row " + row, Due.rowState(x, row), "1,1,1,1,1,1,1,1,1,1,1,1");
        }
    }

    private static void leastWindFromTheLeft() {
        Due.words("Wind", "more than 0, it blows from the left");
        Due.same("wind 1", Due.rowState(windy(1, 1), 0), "2,2,1,1,1,1,1,1,1,1,1,1");
    }

    private static void leastWindFromTheRight() {
        Due.words("Wind", "less than 0, from the right");
        Due.same("wind -1", Due.rowState(windy(-1, 1), 7), "1,1,1,1,1,1,1,1,1,1,2,2");
    }

    private static void mostWindFromTheLeft() {
        Due.words("Day, step 1", "with a wind of 0 or more the wind less c / 2");
        Due.same("wind 5", Due.rowState(windy(5, 1), 0), "6,6,5,5,4,4,3,3,2,2,1,1");
    }

    private static void mostWindFromTheRight() {
        Due.words("Day, step 1", "with one of less than 0 as much as it is without its sign, less (11 - c) / 2");
        Due.same("wind -5", Due.rowState(windy(-5, 1), 0), "1,1,2,2,3,3,4,4,5,5,6,6");
    }

    private static void halvesAreCut() {
        Due.words("Terms", "/ is cut towards 0");
        Due.same("wind 2: column 3 is cut to 1", windy(2, 1).soot(3, 0), 2);
        Due.same("wind 2: column 5 is cut to 2", windy(2, 1).soot(5, 0), 1);
        Due.same("wind -2: column 8, 3 / 2 is cut to 1", windy(-2, 1).soot(8, 0), 2);
        Due.same("wind -2: column 6, 5 / 2 is cut to 2", windy(-2, 1).soot(6, 0), 1);
    }

    private static void windTakesNoSoot() {
        Due.words("Day, step 1", "at least 0");
        Due.same("wind 1, far column", windy(1, 3).soot(11, 0), 3);
        Due.same("wind 3, one column beyond", windy(3, 3).soot(8, 0), 3);
        Due.same("wind -1, far column", windy(-1, 3).soot(0, 0), 3);
        Due.same("wind -3, one column beyond", windy(-3, 3).soot(3, 0), 3);
    }

    private static void sootComesToTwenty() {
        Due.words("Day, step 1", "No pane has more than 20.");
        Due.same("19 days", behindDays(19).count(5), 19 * 96);
        Due.same("20 days", behindDays(20).count(5), 20 * 96);
        Due.same("21 days", behindDays(21).count(5), 20 * 96);
        Due.same("40 days", behindDays(40).count(5), 20 * 96);
    }

    private static void sootIsCutAtTwenty() {
        Due.words("Day, step 1", "No pane has more than 20.");
        Due.same("3 days of 6", windy(5, 3).soot(0, 0), 18);
        Due.same("4 days of 6", windy(5, 4).soot(0, 0), 20);
        Due.same("4 days of 5", windy(5, 4).soot(2, 0), 20);
        Due.same("5 days of 5", windy(5, 5).soot(2, 0), 20);
        Due.same("6 days of 3", windy(5, 6).soot(7, 0), 18);
        Due.same("7 days of 3", windy(5, 7).soot(7, 0), 20);
        Due.same("row 7, 4 days of 6", windy(-5, 4).soot(11, 7), 20);
    }

    private static void sootOfTwentyIsCleanedFromTwentyOn() {
        Due.words("Glass", "each pane has soot, 0 to 20");
        GlassRopes x = behindDays(30);
        x.rope(5, 7, true);
        x.pass(1);
        Due.same("soot(5, 0): 21 are not there to be cleaned", x.soot(5, 0), 13);
        x.pass(2);
        // 14 - 7 = 7, 8 - 7 = 1, then 2 and a way down, and 4 off the next pane.
        Due.same("soot(5, 0)", x.soot(5, 0), 1);
        x.pass(1);
        Due.same("column 5", Due.columnState(x, 5), "0,16,20,20,20,20,20,20");
    }

    // ---- step 2: feast days

    private static void noFeastIsNoFeastDay() {
        Due.words("Feasts", "A day is a feast day, if some feast is on it.");
        GlassRopes x = new GlassRopes();
        x.window(0, 0, 12, 8, 9);
        x.rope(0, 1, true);
        Due.same("pass(40)", x.pass(40), 0);
        Due.same("count(9)", x.count(9), 0);
        Due.same("told(0, 4)", x.told(0, 4), 40);
    }

    private static void severalFeastsAreOneFeastDay() {
        Due.words("Feasts", "A day is a feast day, if some feast is on it.");
        GlassRopes x = new GlassRopes();
        x.window(3, 3, 1, 1, 9);
        x.feast(2, 0);
        x.feast(3, 0);
        x.feast(30, 0);
        x.feast(2, 0);
        Due.same("pass(1)", x.pass(1), 8);
        Due.same("count(9)", x.count(9), 1);
    }

    private static void everyDayIsAFeastDay() {
        Due.words("Day, step 2", "Otherwise ropes work");
        GlassRopes x = new GlassRopes();
        x.rope(0, 30, true);
        x.feast(2, 0);
        x.feast(2, 1);
        x.pass(40);
        Due.same("rope 0", Due.ropeState(x, 0), "0 0 30 0 0 0");
        Due.same("count(5)", x.count(5), 20 * 96);
        Due.same("count(9)", x.count(9), 40);
    }

    private static void dayBeforeAndBehindAFeastDay() {
        Due.words("Feasts", "of which the remainder by a number, 2 to 30, is some number");
        GlassRopes x = new GlassRopes();
        x.window(0, 0, 1, 1, 9);
        x.rope(11, 1, true);
        x.feast(30, 29);
        Due.same("the days 0 to 28", x.pass(29), 0);
        x.wipe(0);
        Due.same("the day 29", x.pass(1), 8);
        Due.same("told(0, 4): no work on the day 29", x.told(0, 4), 29);
        Due.same("the day 30", x.pass(1), 0);
        Due.same("told(0, 4): work on the day 30", x.told(0, 4), 30);
    }

    private static void sootComesBeforeCoins() {
        Due.words("Day", "1. Each pane gets 1 more soot");
        GlassRopes x = new GlassRopes();
        x.window(0, 0, 1, 1, 1);
        x.feast(2, 0);
        Due.same("about(0, 7) before the day", x.about(0, 7), 1);
        Due.same("pass(1)", x.pass(1), 0);
    }

    private static void windowThatBringsJustNothing() {
        Due.words("Windows", "less the soot of its panes, added; at least 0");
        GlassRopes x = new GlassRopes();
        x.window(5, 5, 2, 1, 3);
        x.feast(2, 0);
        x.feast(2, 1);
        int[] coins = {4, 2, 0, 0, 0};
        for (int day = 0; day < coins.length; day++) {
            Due.same("the day " + day, x.pass(1), coins[day]);
        }
        Due.same("count(8)", x.count(8), 6);
    }

    private static void windowsBringEachByItself() {
        Due.words("Day, step 2", "all windows, each by itself, bring coins");
        GlassRopes x = new GlassRopes();
        x.window(0, 0, 12, 8, 1);
        x.window(4, 4, 1, 1, 9);
        x.window(4, 4, 1, 1, 9);
        x.pass(4);
        x.feast(5, 4);
        // The great window would bring 96 - 480: this takes nothing from what the others bring.
        Due.same("pass(1)", x.pass(1), 4 + 4);
    }

    private static void coinsTakeNoSoot() {
        Due.words("Day, step 2", "all windows, each by itself, bring coins");
        GlassRopes x = new GlassRopes();
        x.window(0, 0, 12, 8, 9);
        x.feast(2, 0);
        Due.same("pass(1)", x.pass(1), 864 - 96);
        Due.same("count(5)", x.count(5), 96);
    }

    // ---- step 2: work

    private static void leastStrength() {
        Due.words("Ropes", "who has a strength, 1 to 30");
        Due.same("a day of strength 1", rope(4, 1, true), "4 0 1 0 1 0");
    }

    private static void mostStrength() {
        Due.words("Ropes", "who has a strength, 1 to 30");
        // 15 for the column 4, 3 to move, 12 for six panes and ways down.
        Due.same("a day of strength 30", rope(4, 30, true), "5 6 30 0 14 1");
    }

    private static void strengthLessThanSoot() {
        Due.words("Day, step 2", "If soot is on it still");
        GlassRopes x = windy(5, 1);
        x.rope(0, 11, true);
        x.pass(1);
        Due.same("11 for 12: rope 0", Due.ropeState(x, 0), "0 0 11 0 11 0");
        Due.same("11 for 12: column 0", Due.columnState(x, 0), "1,12,12,12,12,12,12,12");
    }

    private static void strengthJustAsSoot() {
        Due.words("Day, step 2", "or nothing is left (also if it is clean just then), that is all for this day");
        GlassRopes x = windy(5, 1);
        x.rope(0, 12, true);
        x.pass(1);
        Due.same("12 for 12: rope 0", Due.ropeState(x, 0), "0 0 12 0 12 0");
        Due.same("12 for 12: column 0", Due.columnState(x, 0), "0,12,12,12,12,12,12,12");
    }

    private static void lastOneGoesDown() {
        Due.words("Day, step 2", "the cleaner goes down by a row, for 1 less (also for the last 1)");
        GlassRopes x = windy(5, 1);
        x.rope(0, 13, true);
        x.pass(1);
        Due.same("13 for 12: rope 0", Due.ropeState(x, 0), "0 1 13 0 12 0");
        Due.same("13 for 12: column 0", Due.columnState(x, 0), "0,12,12,12,12,12,12,12");
        Due.same("a day of strength 2", rope(4, 2, true), "4 1 2 0 1 0");
    }

    private static void lastOneGoesDownToTheLowestRow() {
        Due.words("Day, step 2", "at a row above the lowest one");
        Due.same("a day of strength 13", rope(4, 13, true), "4 6 13 0 7 0");
        Due.same("a day of strength 14", rope(4, 14, true), "4 7 14 0 7 0");
    }

    private static void nothingLeftAtTheLowestRow() {
        Due.words("Day, step 2", "or nothing is left (also if it is clean just then), that is all for this day");
        Due.same("a day of strength 15", rope(4, 15, true), "4 7 15 0 8 0");
    }

    private static void fewerThanThreeAtTheLowestRow() {
        Due.words("Day, step 2", "if fewer are left, that is all for this day, and they are lost");
        Due.same("a day of strength 16, 1 left", rope(4, 16, true), "4 7 16 0 8 0");
        Due.same("a day of strength 17, 2 left", rope(4, 17, true), "4 7 17 0 8 0");
    }

    private static void whatIsLostDoesNotComeBack() {
        Due.words("Day, step 2", "and they are lost");
        GlassRopes x = new GlassRopes();
        x.rope(0, 17, true);
        x.pass(2);
        // The day 1: 1 for (0, 7), 3 to move, 13 are 4 panes of 2 and ways down, and 1 off the pane (1, 4).
        Due.same("rope 0", Due.ropeState(x, 0), "1 4 17 0 18 1");
        Due.same("column 1", Due.columnState(x, 1), "0,0,0,0,1,2,2,2");
    }

    private static void justThreeAtTheLowestRow() {
        Due.words("Day, step 2", "At the lowest row, if 3 or more are left, the rope is moved, for 3 less");
        GlassRopes x = new GlassRopes();
        x.rope(4, 18, true);
        x.pass(1);
        Due.same("rope 0", Due.ropeState(x, 0), "5 0 18 0 8 1");
        Due.same("column 5", Due.columnState(x, 5), "1,1,1,1,1,1,1,1");
    }

    private static void oneMoreThanThreeAtTheLowestRow() {
        Due.words("Day, step 2", "(and goes on there, if something is left)");
        GlassRopes x = new GlassRopes();
        x.rope(4, 19, true);
        x.pass(1);
        Due.same("rope 0", Due.ropeState(x, 0), "5 0 19 0 9 1");
        Due.same("column 5", Due.columnState(x, 5), "0,1,1,1,1,1,1,1");
    }

    private static void rightOfTheLastColumn() {
        Due.words("Day, step 2", "behind the column 11 comes 0");
        Due.same("rope(10, 18, true)", rope(10, 18, true), "11 0 18 0 8 1");
        Due.same("rope(11, 18, true)", rope(11, 18, true), "0 0 18 0 8 1");
    }

    private static void leftOfTheFirstColumn() {
        Due.words("Day, step 2", "and the other way round");
        Due.same("rope(1, 18, false)", rope(1, 18, false), "0 0 18 1 8 1");
        Due.same("rope(0, 18, false)", rope(0, 18, false), "11 0 18 1 8 1");
    }

    /** Rope 0 has the strength to be moved on the day 0; the others have 1 each. */
    private static GlassRopes amongOthers(int column, boolean right, int... others) {
        GlassRopes x = new GlassRopes();
        x.rope(column, 18, right);
        for (int other : others) {
            x.rope(other, 1, true);
        }
        x.pass(1);
        return x;
    }

    private static void overOneRope() {
        Due.words("Day, step 2", "to the next column of its way at which no rope hangs");
        Due.same("to the right", amongOthers(4, true, 5).told(0, 0), 6);
        Due.same("to the left", amongOthers(4, false, 3).told(0, 0), 2);
        Due.same("to the right, a rope on the other side", amongOthers(4, true, 3).told(0, 0), 5);
        Due.same("to the left, a rope on the other side", amongOthers(4, false, 5).told(0, 0), 3);
    }

    private static void overFiveRopes() {
        Due.words("Day, step 2", "to the next column of its way at which no rope hangs");
        GlassRopes x = amongOthers(4, true, 5, 6, 7, 8, 9);
        Due.same("to the right", Due.ropeState(x, 0), "10 0 18 0 8 1");
        GlassRopes y = amongOthers(9, false, 8, 7, 6, 5, 4);
        Due.same("to the left", Due.ropeState(y, 0), "3 0 18 1 8 1");
    }

    private static void overFiveRopesAndTheEdge() {
        Due.words("Day, step 2", "(behind the column 11 comes 0, and the other way round)");
        Due.same("to the right", amongOthers(9, true, 10, 11, 0, 1, 2).told(0, 0), 3);
        Due.same("to the right from 11", amongOthers(11, true, 0, 1, 2, 3, 4).told(0, 0), 5);
        Due.same("to the left", amongOthers(2, false, 1, 0, 11, 10, 9).told(0, 0), 8);
        Due.same("to the left from 0", amongOthers(0, false, 11, 10, 9, 8, 7).told(0, 0), 6);
    }

    private static void neverTwoAtOneColumn() {
        Due.words("Ropes", "each hangs at a column, no two at one");
        GlassRopes x = new GlassRopes();
        for (int number = 0; number < 6; number++) {
            x.rope(2 * number, 30 - number, number % 2 == 0);
        }
        for (int day = 0; day < 60; day++) {
            x.pass(1);
            int seen = 0;
            for (int rope = 0; rope < 6; rope++) {
                seen |= 1 << x.told(rope, 0);
            }
            Due.same("columns on the day " + day, Integer.bitCount(seen), 6);
        }
    }

    private static void ropesWorkByNumbers() {
        Due.words("Day, step 2", "ropes work, by numbers, one behind the other");
        GlassRopes x = new GlassRopes();
        x.rope(3, 18, true);
        x.rope(2, 19, true);
        x.pass(1);
        Due.same("rope 0 leaves the column 3", Due.ropeState(x, 0), "4 0 18 0 8 1");
        Due.same("rope 1 finds it free and clean, and goes down for its last 1", Due.ropeState(x, 1), "3 1 19 0 8 1");
        GlassRopes y = new GlassRopes();
        y.rope(2, 19, true);
        y.rope(3, 18, true);
        y.pass(1);
        Due.same("rope 0 finds the column 3 taken", Due.ropeState(y, 0), "4 0 19 0 9 1");
        Due.same("rope 1 finds the column 4 taken", Due.ropeState(y, 1), "5 0 18 0 8 1");
    }

    private static void cleanPanesCostNoStrength() {
        Due.words("Day, step 2", "1 soot less for each 1 that is left less");
        GlassRopes x = new GlassRopes();
        x.rope(1, 18, false);
        x.rope(2, 18, true);
        x.rope(11, 30, true);
        x.pass(1);
        // The columns 1 and 2 are clean by then: 15 for 11, 3 to move over 0 to 1, 7 ways down, 3 to move, 2 ways down.
        Due.same("rope 2", Due.ropeState(x, 2), "2 2 30 0 8 2");
    }

    private static void cleanerGoesOnWhereHeWas() {
        Due.words("Day, step 2", "that is all for this day");
        GlassRopes x = new GlassRopes();
        x.rope(6, 10, true);
        x.pass(1);
        Due.same("behind the day 0", Due.ropeState(x, 0), "6 5 10 0 5 0");
        x.pass(1);
        Due.same("behind the day 1", Due.ropeState(x, 0), "6 7 10 0 11 0");
        Due.same("column 6", Due.columnState(x, 6), "1,1,1,1,1,0,0,0");
    }

    // ---- step 3, and promise 9

    private static void dayIsOneGreater() {
        Due.words("Day, step 3", "The day is 1 greater.");
        GlassRopes x = new GlassRopes();
        x.feast(2, 1);
        for (int day = 0; day < 40; day++) {
            Due.same("count(0)", x.count(0), day);
            x.pass(1);
        }
        Due.same("count(0)", x.count(0), 40);
    }

    private static void passDays() {
        Due.words("Promise 9", "Throws `IllegalArgumentException` if days is not 1 to 40");
        Due.answersEach("pass(?)", new int[] {1, 2, 39, 40}, 0, GlassRopes::new, (x, days) -> x.pass(days));
        Due.same("count(0) behind pass(40)", behindDays(40).count(0), 40);
        Due.refusesEach(ARGUMENT, "pass(?)", new int[] {0, 41, -1, -40, Due.MIN, Due.MAX}, Due::full,
            (x, days) -> x.pass(days));
    }

    private static void passEndsWithItsLastDay() {
        Due.words("Promise 9", "Returns how many coins windows bring in them.");
        GlassRopes last = new GlassRopes();
        last.feast(30, 9);
        last.window(0, 0, 2, 2, 9);
        last.pass(8);
        last.wipe(0);
        Due.same("pass(1), the feast day is behind it", last.pass(1), 0);
        GlassRopes in = new GlassRopes();
        in.feast(30, 9);
        in.window(0, 0, 2, 2, 9);
        in.pass(8);
        in.wipe(0);
        Due.same("pass(2), its last day is the feast day", in.pass(2), 36 - 8);
        Due.same("pass(29)", in.pass(29), 0);
        in.wipe(0);
        Due.same("pass(1), the feast day is its first one", in.pass(1), 36 - 4);
    }

    private static void passTellsNoCoinsOfDaysBefore() {
        Due.words("Promise 9", "Returns how many coins windows bring in them.");
        GlassRopes x = new GlassRopes();
        x.window(0, 0, 1, 1, 9);
        x.feast(4, 0);
        Due.same("pass(1)", x.pass(1), 8);
        Due.same("pass(3)", x.pass(3), 0);
        Due.same("pass(5)", x.pass(5), 4);
        Due.same("count(8)", x.count(8), 12);
    }

    private static void passWithoutWindows() {
        Due.words("Promise 9", "Returns how many coins windows bring in them.");
        GlassRopes x = new GlassRopes();
        x.feast(2, 0);
        Due.same("pass(40)", x.pass(40), 0);
    }

    private static void fortyDaysAreFortySingleOnes() {
        Due.words("Promise 9", "Lets days go by.");
        GlassRopes one = Due.full();
        GlassRopes other = Due.full();
        int added = 0;
        for (int day = 0; day < 40; day++) {
            added += other.pass(1);
        }
        Due.same("pass(40)", one.pass(40), added);
        Due.same("the state behind pass(40)", Due.state(one), Due.state(other));
    }

    // ---- what it is

    private static void lastOfAllCalls() {
        Due.words("What it is", "An object is used for at most 512 calls after it has been made");
        GlassRopes x = new GlassRopes();
        for (int call = 1; call <= 511; call++) {
            x.pass(40);
        }
        Due.same("call 512: count(0)", x.count(0), 511 * 40);
    }

    private static void mostCoinsOfAllCalls() {
        Due.words("What it is", "An object is used for at most 512 calls after it has been made");
        GlassRopes x = new GlassRopes();
        for (int window = 0; window < 6; window++) {
            x.window(0, 0, 12, 8, 9);
        }
        x.feast(2, 0);
        x.feast(2, 1);
        int used = 8;
        int due = 0;
        for (; used < 510; used += 2) {
            // Clean glass, then 8 days on each of which it brings less: 864 - 96, .. 864 - 8 * 96.
            x.wipe(0);
            Due.same("call " + (used + 2) + ": pass(8)", x.pass(8), 6 * (8 * 864 - 36 * 96));
            due += 6 * (8 * 864 - 36 * 96);
        }
        Due.same("call 511: count(8)", x.count(8), due);
        Due.same("call 512: count(9)", x.count(9), 251 * 8);
    }

    private static void refusedCallsUseNothingUp() {
        Due.words("Terms", "A method that throws an exception changes nothing.");
        GlassRopes x = new GlassRopes();
        for (int call = 1; call <= 510; call++) {
            Due.same("call " + call, Due.answerOf(() -> x.window(0, 0, 0, 0, 0)), "IllegalArgumentException");
        }
        Due.same("call 511: window(11, 7, 1, 1, 9)", x.window(11, 7, 1, 1, 9), 0);
        Due.same("call 512: count(1)", x.count(1), 1);
    }
}
