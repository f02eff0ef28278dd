/** Promise 9: pass, and how a day goes by. */
public final class DaysTest {
    public static void main(String[] args) {
        passCountsDays();
        passAnswersTheCoinsOfItsDays();
        manyDaysAreAsManySingleOnes();
        sootStopsAtTwenty();
        windMayChangeBetweenDays();
        feastDayBringsCoinsBehindTheSoot();
        feastDayStopsTheRopes();
        everyWindowBringsByItself();
        windowBringsAtLeastNothing();
        oneDayOfEachStrength();
        cleanerGoesOnTheNextDay();
        cleanerStaysWhileSootIsLeft();
        cleanerStaysWhenCleanJustThen();
        ropesGoRound();
        ropesSkipTakenColumns();
        ropesWorkByNumbers();
        strongCleanerMovesTwiceInADay();
        Due.end();
    }

    private static void passCountsDays() {
        GlassRopes x = new GlassRopes();
        x.pass(1);
        Due.same("count(0)", x.count(0), 1);
        x.pass(40);
        Due.same("count(0)", x.count(0), 41);
    }

    private static void passAnswersTheCoinsOfItsDays() {
        GlassRopes x = new GlassRopes();
        x.window(0, 0, 1, 1, 9);
        x.feast(3, 1);
        Due.same("pass(1), the day 0", x.pass(1), 0);
        Due.same("pass(1), the day 1", x.pass(1), 7);
        Due.same("pass(2), the days 2 and 3", x.pass(2), 0);
        Due.same("pass(4), the days 4 to 7", x.pass(4), 4 + 1);
        Due.same("count(8)", x.count(8), 12);
        Due.same("count(9)", x.count(9), 3);
    }

    private static void manyDaysAreAsManySingleOnes() {
        GlassRopes one = setUp();
        GlassRopes other = setUp();
        int coins = one.pass(40);
        int added = 0;
        for (int day = 0; day < 40; day++) {
            added += other.pass(1);
        }
        Due.same("pass(40) and 40 times pass(1)", coins, added);
        Due.same("the state behind pass(40)", Due.state(one), Due.state(other));
    }

    private static GlassRopes setUp() {
        GlassRopes x = new GlassRopes();
        x.window(0, 0, 4, 8, 3);
        x.window(2, 2, 9, 3, 8);
        x.rope(0, 25, true);
        x.rope(6, 30, false);
        x.rope(7, 13, true);
        x.feast(7, 6);
        x.feast(11, 0);
        x.setWind(-1);
        return x;
    }

    private static void sootStopsAtTwenty() {
        GlassRopes x = new GlassRopes();
        x.pass(19);
        Due.same("behind 19 days: soot(5, 5)", x.soot(5, 5), 19);
        x.pass(1);
        Due.same("behind 20 days: soot(5, 5)", x.soot(5, 5), 20);
        x.pass(1);
        Due.same("behind 21 days: count(5)", x.count(5), 20 * 96);
        GlassRopes y = new GlassRopes();
        y.setWind(5);
        y.pass(3);
        Due.same("behind 3 days of wind: soot(0, 0)", y.soot(0, 0), 18);
        y.pass(1);
        Due.same("behind 4 days of wind: soot(0, 0)", y.soot(0, 0), 20);
        Due.same("behind 4 days of wind: soot(2, 0)", y.soot(2, 0), 20);
        Due.same("behind 4 days of wind: soot(4, 0)", y.soot(4, 0), 16);
    }

    private static void windMayChangeBetweenDays() {
        GlassRopes x = new GlassRopes();
        x.setWind(1);
        x.pass(2);
        x.setWind(-2);
        x.pass(1);
        int[] soot = {5, 5, 3, 3, 3, 3, 3, 3, 4, 4, 5, 5};
        for (int column = 0; column < 12; column++) {
            Due.same("soot(" + column + ", 7)", x.soot(column, 7), soot[column]);
        }
    }

    private static void feastDayBringsCoinsBehindTheSoot() {
        GlassRopes x = new GlassRopes();
        x.window(0, 0, 2, 1, 5);
        x.feast(2, 0);
        Due.same("pass(1): soot comes first", x.pass(1), 10 - 2);
        Due.same("count(0)", x.count(0), 1);
        Due.same("pass(1): the day 1 is none", x.pass(1), 0);
        Due.same("pass(1): the day 2 is one", x.pass(1), 10 - 6);
        Due.same("soot(0, 0): coins take none", x.soot(0, 0), 3);
    }

    private static void feastDayStopsTheRopes() {
        GlassRopes x = new GlassRopes();
        x.rope(0, 30, true);
        x.feast(2, 0);
        x.feast(4, 0);
        x.pass(1);
        Due.same("behind a feast day: rope 0", Due.ropeState(x, 0), "0 0 30 0 0 0");
        Due.same("behind a feast day: count(5)", x.count(5), 96);
        Due.same("two feasts on one day: count(9)", x.count(9), 1);
        x.pass(1);
        // 8 panes of 2 soot and 7 ways down are 23, the move 3: 4 are left for (1, 0), 2 and a way down, and 1 at (1, 1).
        Due.same("behind a day of work: rope 0", Due.ropeState(x, 0), "1 1 30 0 19 1");
    }

    private static void everyWindowBringsByItself() {
        GlassRopes x = new GlassRopes();
        x.window(0, 0, 2, 2, 3);
        x.window(1, 1, 2, 2, 4);
        x.window(1, 1, 2, 2, 4);
        x.feast(2, 0);
        Due.same("count(10) on clean glass", x.count(10), 12 + 16 + 16);
        Due.same("pass(1)", x.pass(1), 8 + 12 + 12);
    }

    private static void windowBringsAtLeastNothing() {
        GlassRopes x = new GlassRopes();
        x.window(0, 0, 3, 3, 2);
        x.window(4, 0, 1, 1, 9);
        x.feast(2, 0);
        x.feast(2, 1);
        Due.same("the day 0", x.pass(1), 9 + 8);
        Due.same("the day 1", x.pass(1), 7);
        Due.same("the day 2: no window takes coins from another", x.pass(1), 6);
        Due.same("about(0, 7)", x.about(0, 7), 0);
        Due.same("count(10)", x.count(10), 6);
        Due.same("ten more days", x.pass(10), 5 + 4 + 3 + 2 + 1);
    }

    private static void oneDayOfEachStrength() {
        // Of each pane's 1 soot and each way down 1, the move 3: column, row, soot cleaned off, moves.
        String[] due = {
            "0 0 1 0 1 0", "0 1 2 0 1 0", "0 1 3 0 2 0", "0 2 4 0 2 0", "0 2 5 0 3 0", "0 3 6 0 3 0",
            "0 3 7 0 4 0", "0 4 8 0 4 0", "0 4 9 0 5 0", "0 5 10 0 5 0", "0 5 11 0 6 0", "0 6 12 0 6 0",
            "0 6 13 0 7 0", "0 7 14 0 7 0", "0 7 15 0 8 0", "0 7 16 0 8 0", "0 7 17 0 8 0", "1 0 18 0 8 1",
            "1 0 19 0 9 1", "1 1 20 0 9 1", "1 1 21 0 10 1", "1 2 22 0 10 1"};
        for (int strength = 1; strength <= due.length; strength++) {
            GlassRopes x = new GlassRopes();
            x.rope(0, strength, true);
            x.pass(1);
            Due.same("a day of strength " + strength, Due.ropeState(x, 0), due[strength - 1]);
            Due.same("its soot", x.count(5), 96 - x.told(0, 4));
        }
    }

    private static void cleanerGoesOnTheNextDay() {
        GlassRopes x = new GlassRopes();
        x.rope(0, 10, true);
        x.pass(1);
        Due.same("behind 1 day", Due.ropeState(x, 0), "0 5 10 0 5 0");
        Due.same("column 0", Due.columnState(x, 0), "0,0,0,0,0,1,1,1");
        x.pass(1);
        Due.same("behind 2 days: 2 are lost", Due.ropeState(x, 0), "0 7 10 0 11 0");
        Due.same("column 0", Due.columnState(x, 0), "1,1,1,1,1,0,0,0");
        x.pass(1);
        Due.same("behind 3 days", Due.ropeState(x, 0), "1 1 10 0 17 1");
        Due.same("column 0", Due.columnState(x, 0), "2,2,2,2,2,1,1,0");
        Due.same("column 1", Due.columnState(x, 1), "0,1,3,3,3,3,3,3");
    }

    private static void cleanerStaysWhileSootIsLeft() {
        GlassRopes x = new GlassRopes();
        x.setWind(5);
        x.rope(0, 4, true);
        x.pass(3);
        Due.same("rope 0", Due.ropeState(x, 0), "0 0 4 0 12 0");
        Due.same("soot(0, 0)", x.soot(0, 0), 6);
        Due.same("soot(0, 1)", x.soot(0, 1), 18);
    }

    private static void cleanerStaysWhenCleanJustThen() {
        GlassRopes x = new GlassRopes();
        x.rope(4, 1, true);
        x.pass(9);
        Due.same("rope 0", Due.ropeState(x, 0), "4 0 1 0 9 0");
        Due.same("column 4", Due.columnState(x, 4), "0,9,9,9,9,9,9,9");
    }

    private static void ropesGoRound() {
        GlassRopes x = new GlassRopes();
        x.rope(11, 18, true);
        x.pass(1);
        Due.same("to the right of 11", Due.ropeState(x, 0), "0 0 18 0 8 1");
        GlassRopes y = new GlassRopes();
        y.rope(0, 18, false);
        y.pass(1);
        Due.same("to the left of 0", Due.ropeState(y, 0), "11 0 18 1 8 1");
    }

    private static void ropesSkipTakenColumns() {
        GlassRopes x = new GlassRopes();
        x.rope(10, 18, true);
        x.rope(11, 1, true);
        x.rope(0, 1, true);
        x.rope(1, 1, true);
        x.pass(1);
        Due.same("to the right over 11, 0 and 1", Due.ropeState(x, 0), "2 0 18 0 8 1");
        GlassRopes y = new GlassRopes();
        y.rope(1, 18, false);
        y.rope(0, 1, true);
        y.rope(10, 1, true);
        y.pass(1);
        Due.same("to the left over 0", Due.ropeState(y, 0), "11 0 18 1 8 1");
    }

    private static void ropesWorkByNumbers() {
        GlassRopes x = new GlassRopes();
        x.rope(3, 18, true);
        x.rope(2, 19, true);
        x.pass(1);
        Due.same("rope 0 leaves the column 3", Due.ropeState(x, 0), "4 0 18 0 8 1");
        Due.same("rope 1 comes to it, cleaned already", Due.ropeState(x, 1), "3 1 19 0 8 1");
        GlassRopes y = new GlassRopes();
        y.rope(2, 19, true);
        y.rope(3, 18, true);
        y.pass(1);
        Due.same("rope 0 skips the column 3", Due.ropeState(y, 0), "4 0 19 0 9 1");
        Due.same("rope 1 skips the column 4", Due.ropeState(y, 1), "5 0 18 0 8 1");
    }

    private static void strongCleanerMovesTwiceInADay() {
        GlassRopes x = new GlassRopes();
        x.window(0, 0, 12, 8, 1);
        x.rope(0, 30, true);
        x.pass(1);
        Due.same("behind 1 day", Due.ropeState(x, 0), "1 6 30 0 14 1");
        x.wipe(0);
        x.pass(1);
        // From (1, 6): 3 for two panes, 3 to move, 15 for the column 2, 3 to move, 6 for three panes and ways down.
        Due.same("behind 2 days", Due.ropeState(x, 0), "3 3 30 0 27 3");
        Due.same("column 3", Due.columnState(x, 3), "0,0,0,1,1,1,1,1");
        Due.same("count(5)", x.count(5), 83);
    }
}
