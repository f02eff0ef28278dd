import java.math.BigInteger;

/** Promises 16 to 20: each edge that the document names, with a test of its own. */
public final class WhatWouldBeEdgesTest {
    private static final Class<IllegalArgumentException> ARGUMENT = IllegalArgumentException.class;
    private static final Class<IndexOutOfBoundsException> INDEX = IndexOutOfBoundsException.class;
    private static final Class<IllegalStateException> STATE = IllegalStateException.class;

    public static void main(String[] args) {
        Due.runAll(WhatWouldBeEdgesTest.class);
    }

    private static GlassRopes used() {
        GlassRopes x = new GlassRopes();
        x.window(0, 0, 2, 3, 4);
        x.window(1, 2, 3, 2, 9);
        x.window(8, 1, 4, 7, 6);
        x.rope(5, 16, true);
        x.rope(1, 29, false);
        x.rope(9, 8, false);
        x.feast(5, 4);
        x.feast(9, 3);
        x.setWind(-2);
        x.pass(2);
        return x;
    }

    private static GlassRopes withoutFeasts() {
        GlassRopes x = new GlassRopes();
        x.window(0, 0, 2, 3, 4);
        x.rope(5, 16, true);
        x.pass(2);
        return x;
    }

    // ---- promise 16

    private static void wouldDays() {
        Due.words("Promise 16", "Throws `IllegalArgumentException` if days is not 1 to 40");
        Due.same("would(1, 0)", new GlassRopes().would(1, 0), 96);
        Due.same("would(40, 0)", new GlassRopes().would(40, 0), 1920);
        Due.refusesEach(ARGUMENT, "would(?, 0)", new int[] {0, 41, -1, -40, 60, Due.MIN, Due.MAX},
            WhatWouldBeEdgesTest::used, (x, days) -> x.would(days, 0));
    }

    private static void wouldWhat() {
        Due.words("Promise 16", "Throws `IndexOutOfBoundsException` if what is not 0 to 2");
        Due.same("would(1, 2)", withoutFeasts().would(1, 2), withoutFeastsBehind(1).count(7));
        Due.refusesEach(INDEX, "would(1, ?)", new int[] {-1, 3, Due.MIN, Due.MAX}, WhatWouldBeEdgesTest::used,
            (x, what) -> x.would(1, what));
        Due.refusesEach(INDEX, "would(40, ?)", new int[] {-1, 3, Due.MIN, Due.MAX}, WhatWouldBeEdgesTest::used,
            (x, what) -> x.would(40, what));
    }

    private static GlassRopes withoutFeastsBehind(int days) {
        GlassRopes x = withoutFeasts();
        x.pass(days);
        return x;
    }

    private static void wouldArgumentGoesBeforeIndex() {
        Due.words("Promise 16", "the one that is named first is thrown");
        Due.refuses(ARGUMENT, "would(0, 3)", WhatWouldBeEdgesTest::used, x -> x.would(0, 3));
        Due.refuses(ARGUMENT, "would(41, -1)", WhatWouldBeEdgesTest::used, x -> x.would(41, -1));
    }

    private static void wouldEndsWithItsLastDay() {
        Due.words("Promise 16", "Returns this, behind so many days");
        GlassRopes x = new GlassRopes();
        x.window(0, 0, 2, 2, 9);
        x.feast(30, 5);
        Due.same("would(5, 1), the feast day is behind it", x.would(5, 1), 0);
        Due.same("would(6, 1), its last day is the feast day", x.would(6, 1), 36 - 24);
        Due.same("would(1, 0)", x.would(1, 0), 96);
        Due.same("would(2, 0)", x.would(2, 0), 192);
    }

    private static void wouldOfFortyDays() {
        Due.words("Promise 16", "0 soot of all panes, 1 coins in all, 2 soot cleaned off in all");
        GlassRopes x = used();
        GlassRopes y = used();
        y.pass(40);
        Due.same("would(40, 0)", x.would(40, 0), y.count(5));
        Due.same("would(40, 1)", x.would(40, 1), y.count(8));
        Due.same("would(40, 2)", x.would(40, 2), y.count(7));
    }

    private static void wouldTellsInAll() {
        Due.words("Promise 16", "1 coins in all, 2 soot cleaned off in all");
        GlassRopes x = new GlassRopes();
        x.window(0, 0, 1, 1, 9);
        x.feast(2, 1);
        x.rope(11, 1, true);
        x.pass(2);
        Due.same("would(1, 1), with the coins that there are", x.would(1, 1), 7);
        Due.same("would(2, 1)", x.would(2, 1), 7 + 5);
        Due.same("would(1, 2), with what is cleaned off already", x.would(1, 2), 2);
        Due.same("would(2, 2), the day 3 is a feast day", x.would(2, 2), 2);
    }

    private static void wouldWithoutAnything() {
        Due.words("Promise 16", "1 coins in all, 2 soot cleaned off in all");
        Due.same("would(40, 1)", new GlassRopes().would(40, 1), 0);
        Due.same("would(40, 2)", new GlassRopes().would(40, 2), 0);
    }

    private static void wouldChangesNothing() {
        Due.words("Promise 16", "(nothing is changed)");
        GlassRopes x = used();
        x.would(40, 0);
        x.would(40, 1);
        x.would(40, 2);
        sameAs("three calls of would", x, used());
    }

    private static void sameAs(String behind, GlassRopes x, GlassRopes twin) {
        Due.same("the state behind " + behind, Due.state(x), Due.state(twin));
        Due.same("the coins of 9 days behind " + behind, x.pass(9), twin.pass(9));
        Due.same("digest() 9 days behind " + behind, x.digest(), twin.digest());
    }

    // ---- promise 17

    private static void untilWithoutWindows() {
        Due.words("Promise 17", "Throws `IndexOutOfBoundsException` if there is no such window");
        Due.refusesEach(INDEX, "until(?)", new int[] {0, -1, 1}, GlassRopes::new, (x, window) -> x.until(window));
    }

    private static void untilWindow() {
        Due.words("Promise 17", "Throws `IndexOutOfBoundsException` if there is no such window");
        Due.refusesEach(INDEX, "until(?)", new int[] {-1, 3, 5, 6, Due.MIN, Due.MAX}, WhatWouldBeEdgesTest::used,
            (x, window) -> x.until(window));
        Due.answersEach("until(?) of six", new int[] {0, 5}, 0, Due::full, (x, window) -> x.until(window));
        Due.refusesEach(INDEX, "until(?) of six", new int[] {6, -1}, Due::full, (x, window) -> x.until(window));
    }

    private static void untilNow() {
        Due.words("Promise 17", "0 if it is so now");
        GlassRopes x = new GlassRopes();
        x.window(2, 2, 3, 3, 1);
        x.window(3, 3, 1, 1, 1);
        Due.same("on clean glass", x.until(0), 0);
        x.pass(1);
        Due.same("with just as much soot as panes", x.until(0), 0);
        x.pass(1);
        Due.same("with twice as much", x.until(0), -1);
        x.wipe(1);
        Due.same("one pane wiped", x.until(0), -1);
        x.wipe(0);
        Due.same("all wiped", x.until(0), 0);
    }

    private static void untilOneMoreSootThanPanes() {
        Due.words("Promise 17", "its panes have no more soot, added, than there are panes in it");
        GlassRopes x = new GlassRopes();
        x.window(0, 0, 3, 1, 1);
        x.window(0, 0, 1, 1, 1);
        x.pass(2);
        x.wipe(1);
        Due.same("about(0, 5): 4 on 3 panes", x.about(0, 5), 4);
        Due.same("until(0)", x.until(0), -1);
        GlassRopes y = new GlassRopes();
        y.window(0, 0, 4, 1, 1);
        y.window(0, 0, 2, 1, 1);
        y.pass(2);
        y.wipe(1);
        Due.same("about(0, 5): 4 on 4 panes", y.about(0, 5), 4);
        Due.same("until(0)", y.until(0), 0);
    }

    private static void untilOneDay() {
        Due.words("Promise 17", "Returns behind how many days");
        GlassRopes x = new GlassRopes();
        x.window(4, 0, 1, 1, 1);
        x.pass(2);
        x.rope(4, 2, true);
        // The pane has 2: on the next day 3, of which 2 are cleaned off, so that 1 is left.
        Due.same("strength 2", x.until(0), 1);
        GlassRopes y = new GlassRopes();
        y.window(4, 0, 1, 1, 1);
        y.pass(2);
        y.rope(4, 1, true);
        Due.same("strength 1 takes as much as comes", y.until(0), -1);
    }

    /** A strength of 2 takes 20 days for each pane of 20: behind k of them, 1 to 18, there are 19 - k on it. */
    private static GlassRopes slow(int days) {
        GlassRopes x = new GlassRopes();
        x.window(0, 3, 1, 1, 1);
        x.pass(25);
        x.rope(0, 2, true);
        x.pass(days);
        return x;
    }

    private static void untilSixtyDays() {
        Due.words("Promise 17", "at most 60");
        Due.same("of 78 days 18 went by", slow(18).until(0), 60);
        Due.same("of 78 days 19 went by", slow(19).until(0), 59);
        GlassRopes x = slow(38);
        x.pass(39);
        Due.same("about(0, 5) behind 77 days", x.about(0, 5), 2);
        x.pass(1);
        Due.same("about(0, 5) behind 78 days", x.about(0, 5), 1);
    }

    private static void untilMoreThanSixtyDays() {
        Due.words("Promise 17", "-1 if not by then");
        Due.same("of 78 days 17 went by", slow(17).until(0), -1);
        Due.same("of 78 days 1 went by", slow(1).until(0), -1);
    }

    private static void untilNever() {
        Due.words("Promise 17", "-1 if not by then");
        GlassRopes x = new GlassRopes();
        x.window(0, 0, 12, 8, 9);
        x.pass(40);
        Due.same("without ropes", x.until(0), -1);
        x.rope(0, 30, true);
        Due.same("a rope is not enough for all panes", x.until(0), -1);
    }

    private static void untilWaitsOnFeastDays() {
        Due.words("Promise 17", "if nothing is done by hand");
        GlassRopes x = new GlassRopes();
        x.window(4, 0, 1, 1, 1);
        x.pass(2);
        x.rope(4, 3, true);
        Due.same("without feasts", x.until(0), 1);
        x.feast(3, 2);
        Due.same("the next day is a feast day", x.until(0), 2);
    }

    private static void untilChangesNothing() {
        Due.words("Promise 17", "(nothing is changed)");
        GlassRopes x = used();
        x.until(0);
        x.until(1);
        x.until(2);
        sameAs("three calls of until", x, used());
        GlassRopes never = slow(1);
        never.until(0);
        sameAs("an until that tells -1", never, slow(1));
    }

    // ---- promise 18

    private static void adviseWithoutRopes() {
        Due.words("Promise 18", "Throws `IndexOutOfBoundsException` if there is no such rope");
        Due.refusesEach(INDEX, "advise(?)", new int[] {0, -1, 1}, WhatWouldBeEdgesTest::feastsAlone,
            (x, rope) -> x.advise(rope));
    }

    private static GlassRopes feastsAlone() {
        GlassRopes x = new GlassRopes();
        x.feast(3, 1);
        return x;
    }

    private static void adviseRope() {
        Due.words("Promise 18", "Throws `IndexOutOfBoundsException` if there is no such rope");
        Due.refusesEach(INDEX, "advise(?)", new int[] {-1, 3, 5, 6, Due.MIN, Due.MAX}, WhatWouldBeEdgesTest::used,
            (x, rope) -> x.advise(rope));
        Due.refusesEach(INDEX, "advise(?) of six", new int[] {6, -1}, Due::full, (x, rope) -> x.advise(rope));
    }

    private static void adviseWithoutFeasts() {
        Due.words("Promise 18", "Throws `IllegalStateException` if next() tells -1");
        Due.refuses(STATE, "advise(0)", WhatWouldBeEdgesTest::withoutFeasts, x -> x.advise(0));
        GlassRopes x = withoutFeasts();
        x.feast(30, 1);
        Due.same("next() with a feast", x.next(), 29);
        Due.same("advise(0) with it", Due.answerOf(() -> x.advise(0)), "0");
    }

    private static void adviseIndexGoesBeforeState() {
        Due.words("Promise 18", "the one that is named first is thrown");
        Due.refusesEach(INDEX, "advise(?) without feasts", new int[] {1, -1}, WhatWouldBeEdgesTest::withoutFeasts,
            (x, rope) -> x.advise(rope));
        Due.refuses(INDEX, "advise(0) without ropes and feasts", GlassRopes::new, x -> x.advise(0));
    }

    /** The one day before the feast day is enough for one pane of one soot; just one pane is in a window. */
    private static GlassRopes onePane(int column, int hangs) {
        GlassRopes x = new GlassRopes();
        x.window(column, 0, 1, 1, 9);
        x.rope(hangs, 1, true);
        x.feast(9, 1);
        return x;
    }

    private static void adviseTheFirstAndTheLastColumn() {
        Due.words("Promise 18", "Looks for the column at which a rope had best hang");
        Due.same("window at 0, from 5", onePane(0, 5).advise(0), 0);
        Due.same("window at 11, from 5", onePane(11, 5).advise(0), 11);
        Due.same("window at 11, from 0", onePane(11, 0).advise(0), 11);
        Due.same("window at 0, from 11", onePane(0, 11).advise(0), 0);
    }

    private static void adviseItsOwnColumn() {
        Due.words("Promise 18", "At its own column it goes on as it hangs");
        for (int column = 0; column < 12; column++) {
            Due.same("window and rope at " + column, onePane(column, column).advise(0), column);
        }
    }

    private static void adviseOfSeveralTheSmallest() {
        Due.words("Promise 18", "Returns this column, of several the smallest");
        GlassRopes x = onePane(4, 10);
        x.window(7, 0, 1, 1, 9);
        Due.same("4 and 7, from 10", x.advise(0), 4);
        x.move(0, 7);
        Due.same("4 and 7, from 7", x.advise(0), 4);
        x.move(0, 4);
        Due.same("4 and 7, from 4", x.advise(0), 4);
    }

    private static void adviseAllAsGood() {
        Due.words("Promise 18", "of several the smallest");
        GlassRopes x = new GlassRopes();
        x.rope(6, 5, true);
        x.feast(9, 4);
        Due.same("without windows", x.advise(0), 0);
        x.move(0, 0);
        Due.same("without windows, from 0", x.advise(0), 0);
        x.rope(1, 5, true);
        Due.same("rope 1: 0 is taken, its own is the smallest then", x.advise(1), 1);
        x.move(1, 11);
        Due.same("rope 1 from 11", x.advise(1), 1);
    }

    private static void adviseNoTakenColumn() {
        Due.words("Promise 18", "at each other one, at which no rope hangs");
        GlassRopes x = onePane(4, 10);
        x.window(7, 0, 1, 1, 8);
        x.rope(4, 1, true);
        Due.same("4 is taken, so 7", x.advise(0), 7);
        x.rope(7, 1, true);
        Due.same("4 and 7 are taken, so the smallest", x.advise(0), 0);
        x.rope(0, 1, true);
        Due.same("0, 4 and 7 are taken", x.advise(0), 1);
    }

    private static void adviseWithSixRopes() {
        Due.words("Promise 18", "at each other one, at which no rope hangs");
        GlassRopes x = new GlassRopes();
        for (int number = 0; number < 6; number++) {
            x.rope(number, 1, true);
        }
        x.window(0, 0, 6, 1, 9);
        x.feast(9, 1);
        // Each rope cleans the window where it hangs, and none of its panes is free.
        for (int number = 0; number < 6; number++) {
            Due.same("advise(" + number + ")", x.advise(number), number);
        }
        GlassRopes y = new GlassRopes();
        for (int number = 0; number < 6; number++) {
            y.rope(number, 1, true);
        }
        y.window(11, 0, 1, 1, 9);
        y.feast(9, 1);
        for (int number = 0; number < 6; number++) {
            Due.same("a window at 11: advise(" + number + ")", y.advise(number), 11);
        }
    }

    private static void adviseOnAFeastDay() {
        Due.words("Promise 18", "behind the next feast day (which goes by as well)");
        GlassRopes x = onePane(4, 10);
        x.pass(1);
        Due.same("next()", x.next(), 0);
        Due.same("nobody works on this day", x.advise(0), 0);
        x.move(0, 0);
        x.rope(1, 1, true);
        Due.same("rope 1: 0 is taken", x.advise(1), 1);
        x.pass(1);
        Due.same("next() behind it", x.next(), 8);
    }

    private static void adviseCountsTheFeastDayItself() {
        Due.words("Promise 18", "(which goes by as well)");
        // Only the coins of the feast day tell the columns apart: without them the smallest would be as good.
        Due.same("advise(0)", onePane(9, 3).advise(0), 9);
    }

    private static void adviseCountsNoDayBehindTheFeastDay() {
        Due.words("Promise 18", "so that there are the most coins in all behind the next feast day");
        GlassRopes x = new GlassRopes();
        x.window(2, 0, 1, 1, 9);
        x.window(8, 7, 1, 1, 9);
        x.rope(5, 14, true);
        x.feast(9, 1);
        x.feast(9, 3);
        // One day of 14 ends above the pane (8, 7), which the second day, behind the feast day, would clean.
        Due.same("advise(0)", x.advise(0), 2);
    }

    private static void adviseCountsNoFeastDayRightBehindTheFeastDay() {
        Due.words("Promise 18", "so that there are the most coins in all behind the next feast day");
        GlassRopes x = onePane(8, 8);
        x.feast(9, 2);
        Due.same("at its best column: advise(0)", x.advise(0), 8);
        x.move(0, 5);
        Due.same("elsewhere: advise(0)", x.advise(0), 8);
        x.window(2, 0, 1, 1, 2);
        // On the day 1 either pane brings 1 more if it was cleaned; on the day 2 just the pane (8, 0) would.
        Due.same("as good on the next feast day alone: advise(0)", x.advise(0), 2);
    }

    private static void adviseFarthestFeastDay() {
        Due.words("Promise 18", "behind the next feast day");
        GlassRopes x = new GlassRopes();
        x.window(6, 7, 1, 1, 9);
        x.rope(3, 1, true);
        x.feast(30, 29);
        Due.same("a strength of 1 comes to no other pane", x.advise(0), 0);
        GlassRopes y = new GlassRopes();
        y.window(6, 0, 1, 1, 9);
        y.rope(3, 1, true);
        y.feast(30, 29);
        // On the day 29 the pane (6, 0) has 1, as it is cleaned on each of the 29 days before.
        Due.same("next()", y.next(), 29);
        Due.same("advise(0)", y.advise(0), 6);
    }

    private static void adviseAsIfMovedNow() {
        Due.words("Promise 18", "it is as if it was moved there now");
        GlassRopes x = new GlassRopes();
        x.window(6, 4, 1, 1, 9);
        x.rope(4, 9, true);
        x.feast(9, 2);
        x.pass(1);
        Due.same("told(0, 1)", x.told(0, 1), 4);
        // From the row 0 of the column 6 one day of 9 comes to the row 3: his row 4 does not go with him.
        Due.same("advise(0)", x.advise(0), 0);
    }

    private static void adviseGoesOnAsItHangs() {
        Due.words("Promise 18", "At its own column it goes on as it hangs");
        GlassRopes x = new GlassRopes();
        x.window(4, 5, 1, 1, 9);
        x.rope(4, 9, true);
        x.feast(9, 2);
        x.pass(1);
        // From the row 4 on he comes to the pane (4, 5) on the day 1, from the row 0 on he would not.
        Due.same("from the row 4: advise(0)", x.advise(0), 4);
        GlassRopes y = new GlassRopes();
        y.window(4, 0, 1, 3, 9);
        y.window(6, 0, 1, 1, 9);
        y.rope(4, 9, true);
        y.feast(9, 2);
        y.pass(1);
        // From the row 0 on he would take 3 off the first window, but he is below it; off (6, 0) he takes 2.
        Due.same("below his window: advise(0)", y.advise(0), 6);
    }

    private static void adviseLetsTheOthersWork() {
        Due.words("Promise 18", "so that there are the most coins in all");
        GlassRopes x = onePane(4, 10);
        x.window(7, 0, 1, 1, 9);
        x.rope(4, 1, true);
        // Rope 1 cleans (4, 0) where it hangs; rope 0 had best add (7, 0) to it.
        Due.same("advise(0)", x.advise(0), 7);
        Due.same("advise(1)", x.advise(1), 4);
    }

    private static void adviseChangesNothing() {
        Due.words("Promise 18", "(nothing is changed)");
        GlassRopes x = used();
        x.advise(0);
        x.advise(1);
        x.advise(2);
        sameAs("three calls of advise", x, used());
    }

    private static void looksAheadLeaveNoTrace() {
        Due.words("Promises 16 to 18", "(nothing is changed)");
        GlassRopes x = used();
        for (int round = 0; round < 3; round++) {
            x.advise(round);
            Due.same("would(7, 0) behind advise", x.would(7, 0), used().would(7, 0));
            x.would(40, 2);
            Due.same("until(0) behind would", x.until(0), used().until(0));
            Due.same("advise(2) behind until", x.advise(2), used().advise(2));
            Due.same("would(7, 1) behind advise", x.would(7, 1), used().would(7, 1));
        }
    }

    // ---- promise 19

    private static void meanOfCleanGlass() {
        Due.words("Promise 19", "Returns the mean soot of a pane.");
        Due.same("mean() of a new object", new GlassRopes().mean(), 0.0);
    }

    private static void meanOfFullGlass() {
        Due.words("Promise 19", "Returns the mean soot of a pane.");
        GlassRopes x = new GlassRopes();
        x.pass(40);
        Due.same("mean() behind 40 days", x.mean(), 20.0);
    }

    private static void meanOfOneSoot() {
        Due.words("Promise 19", "Returns the mean soot of a pane.");
        GlassRopes x = new GlassRopes();
        x.window(0, 0, 11, 8, 1);
        x.window(11, 0, 1, 7, 1);
        x.pass(1);
        x.wipe(0);
        x.wipe(1);
        Due.same("count(5)", x.count(5), 1);
        Due.same("mean(): it is not cut", x.mean(), 1.0 / 96.0);
    }

    private static void meanOfHalves() {
        Due.words("Promise 19", "Returns the mean soot of a pane.");
        GlassRopes x = new GlassRopes();
        x.window(0, 0, 6, 8, 1);
        x.pass(3);
        x.wipe(0);
        Due.same("mean()", x.mean(), 1.5);
    }

    // ---- promise 20

    private static void digestOfANewObject() {
        Due.words("Promise 20", "A number d starts with 1823");
        long d = 1823;
        for (int i = 0; i < 11 + 96; i++) {
            d = d * 31 + (i == 6 ? 96 : 0);
        }
        Due.same("digest()", new GlassRopes().digest(), d);
    }

    private static void digestWrapsAround() {
        Due.words("Promise 20", "which wraps around as a 64-bit integer");
        BigInteger d = digestByHand(used());
        Due.same("it is greater than 64 bits", d.bitLength() > 500, true);
        Due.same("digest()", used().digest(), d.longValue());
    }

    private static void digestOfNegativeWind() {
        Due.words("Promise 20", "what count() tells, in its order");
        GlassRopes x = new GlassRopes();
        x.setWind(-5);
        long d = 1823;
        for (int i = 0; i < 11 + 96; i++) {
            d = d * 31 + (i == 6 ? 96 : i == 4 ? -5 : 0);
        }
        Due.same("digest()", x.digest(), d);
    }

    private static void digestOfFullThings() {
        Due.words("Promise 20", "for each window what about() tells; for each rope what told() tells");
        for (int days = 1; days <= 40; days += 13) {
            GlassRopes x = Due.full();
            x.pass(days);
            Due.same("digest() behind " + days + " days", x.digest(), digestByHand(x).longValue());
        }
    }

    private static void digestOfWindowsAlone() {
        Due.words("Promise 20", "for each window what about() tells");
        GlassRopes x = new GlassRopes();
        x.window(2, 1, 3, 4, 5);
        Due.same("digest()", x.digest(), digestByHand(x).longValue());
    }

    private static void digestOfRopesAlone() {
        Due.words("Promise 20", "for each rope what told() tells");
        GlassRopes x = new GlassRopes();
        x.rope(7, 22, false);
        Due.same("digest()", x.digest(), digestByHand(x).longValue());
    }

    private static void digestColumnByColumn() {
        Due.words("Promise 20", "the soot of each pane, column by column, in each from the row 0 on");
        GlassRopes x = new GlassRopes();
        x.setWind(5);
        x.rope(3, 13, true);
        x.pass(2);
        Due.same("digest()", x.digest(), digestByHand(x).longValue());
    }

    /** Without any wrap-around: at most 290 calls. */
    private static BigInteger digestByHand(GlassRopes x) {
        BigInteger d = BigInteger.valueOf(1823);
        for (int what = 0; what <= 10; what++) {
            d = next(d, x.count(what));
        }
        int windows = x.count(1);
        for (int window = 0; window < windows; window++) {
            for (int what = 0; what <= 7; what++) {
                d = next(d, x.about(window, what));
            }
        }
        int ropes = x.count(2);
        for (int rope = 0; rope < ropes; rope++) {
            for (int what = 0; what <= 5; what++) {
                d = next(d, x.told(rope, what));
            }
        }
        for (int column = 0; column < 12; column++) {
            for (int row = 0; row < 8; row++) {
                d = next(d, x.soot(column, row));
            }
        }
        return d;
    }

    private static BigInteger next(BigInteger d, int x) {
        return d.multiply(BigInteger.valueOf(31)).add(BigInteger.valueOf(x));
    }
}
