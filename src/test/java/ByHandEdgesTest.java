/** Promises 6 to 8: each edge that the document names, with a test of its own. */
public final class ByHandEdgesTest {
    private static final Class<IndexOutOfBoundsException> INDEX = IndexOutOfBoundsException.class;
    private static final Class<IllegalStateException> STATE = IllegalStateException.class;

    public static void main(String[] args) {
        Due.runAll(ByHandEdgesTest.class);
    }

    /** Two windows and two ropes; rope 0 went from 5 to 6 (row 1), rope 1 hangs at 8 as at first (row 3). */
    private static GlassRopes used() {
        GlassRopes x = new GlassRopes();
        x.window(5, 0, 2, 8, 9);
        x.window(0, 7, 12, 1, 2);
        x.rope(5, 20, true);
        x.rope(8, 6, false);
        x.feast(7, 3);
        x.pass(1);
        return x;
    }

    private static GlassRopes withoutRopesAndWindows() {
        GlassRopes x = new GlassRopes();
        x.pass(2);
        return x;
    }

    private static GlassRopes fullBehindDays() {
        GlassRopes x = Due.full();
        x.pass(3);
        return x;
    }

    // ---- promise 6

    private static void moveWithoutRopes() {
        Due.words("Promise 6", "if there is no such rope");
        Due.refusesEach(INDEX, "move(?, 1)", new int[] {0, -1, 1}, ByHandEdgesTest::withoutRopesAndWindows,
            (x, rope) -> x.move(rope, 1));
    }

    private static void moveRope() {
        Due.words("Promise 6", "if there is no such rope");
        Due.same("move(0, 1)", used().move(0, 1), 6);
        Due.same("move(1, 1)", used().move(1, 1), 8);
        Due.refusesEach(INDEX, "move(?, 1)", new int[] {-1, 2, 5, 6, Due.MIN, Due.MAX}, ByHandEdgesTest::used,
            (x, rope) -> x.move(rope, 1));
    }

    private static void moveRopeOfSix() {
        Due.words("Promise 6", "if there is no such rope");
        Due.answersEach("move(5, ?)", new int[] {1, 3}, 10, Due::full, (x, column) -> x.move(5, column));
        Due.refusesEach(INDEX, "move(?, 1)", new int[] {6, -1}, Due::full, (x, rope) -> x.move(rope, 1));
    }

    private static void moveColumn() {
        Due.words("Promise 6", "or column is not 0 to 11");
        Due.answersEach("move(0, ?)", new int[] {0, 1, 10, 11}, 6, ByHandEdgesTest::used, (x, column) -> x.move(0, column));
        Due.refusesEach(INDEX, "move(0, ?)", new int[] {-1, 12, -12, 13, Due.MIN, Due.MAX}, ByHandEdgesTest::used,
            (x, column) -> x.move(0, column));
    }

    private static void moveWhereAnotherHangs() {
        Due.words("Promise 6", "if a rope hangs there");
        Due.refuses(STATE, "move(0, 8), where rope 1 hangs", ByHandEdgesTest::used, x -> x.move(0, 8));
        Due.refuses(STATE, "move(1, 6), to which rope 0 went", ByHandEdgesTest::used, x -> x.move(1, 6));
        Due.same("move(1, 5), from which rope 0 went", used().move(1, 5), 8);
    }

    private static void moveToItsOwnColumn() {
        Due.words("Promise 6", "(this one as well)");
        Due.refuses(STATE, "move(0, 6)", ByHandEdgesTest::used, x -> x.move(0, 6));
        Due.refuses(STATE, "move(1, 8)", ByHandEdgesTest::used, x -> x.move(1, 8));
        GlassRopes x = used();
        x.move(0, 11);
        Due.same("move(0, 11), again", Due.answerOf(() -> x.move(0, 11)), "IllegalStateException");
        Due.same("move(0, 6), where it was", x.move(0, 6), 11);
    }

    private static void moveWhereSixHang() {
        Due.words("Promise 6", "if a rope hangs there");
        Due.refusesEach(STATE, "move(3, ?)", new int[] {0, 2, 4, 6, 8, 10}, Due::full, (x, column) -> x.move(3, column));
        Due.answersEach("move(3, ?)", new int[] {1, 3, 5, 7, 9, 11}, 6, Due::full, (x, column) -> x.move(3, column));
    }

    private static void moveIndexGoesBeforeState() {
        Due.words("Promise 6", "the one that is named first is thrown");
        Due.refuses(INDEX, "move(2, 8), where rope 1 hangs", ByHandEdgesTest::used, x -> x.move(2, 8));
        Due.refuses(INDEX, "move(-1, 6), where rope 0 hangs", ByHandEdgesTest::used, x -> x.move(-1, 6));
    }

    private static void moveBeginsAtTheRowZero() {
        Due.words("Promise 6", "its cleaner is at the row 0 then");
        GlassRopes x = used();
        Due.same("rope 1", Due.ropeState(x, 1), "8 3 6 1 3 0");
        x.move(1, 11);
        Due.same("rope 1, moved", Due.ropeState(x, 1), "11 0 6 1 3 1");
        Due.same("rope 0", Due.ropeState(x, 0), "6 1 20 0 9 1");
        GlassRopes y = new GlassRopes();
        y.rope(0, 14, true);
        y.pass(1);
        Due.same("a cleaner at the lowest row", Due.ropeState(y, 0), "0 7 14 0 7 0");
        y.move(0, 1);
        Due.same("he as well", Due.ropeState(y, 0), "1 0 14 0 7 1");
    }

    // ---- promise 7

    private static void turnWithoutRopes() {
        Due.words("Promise 7", "Throws `IndexOutOfBoundsException` if there is no such rope");
        Due.refusesEach(INDEX, "turn(?)", new int[] {0, -1, 1}, ByHandEdgesTest::withoutRopesAndWindows,
            (x, rope) -> x.turn(rope));
    }

    private static void turnRope() {
        Due.words("Promise 7", "Throws `IndexOutOfBoundsException` if there is no such rope");
        Due.same("turn(0)", used().turn(0), false);
        Due.same("turn(1)", used().turn(1), true);
        Due.refusesEach(INDEX, "turn(?)", new int[] {-1, 2, 5, 6, Due.MIN, Due.MAX}, ByHandEdgesTest::used,
            (x, rope) -> x.turn(rope));
        Due.same("turn(5) of six", Due.full().turn(5), true);
        Due.refusesEach(INDEX, "turn(?) of six", new int[] {6, -1}, Due::full, (x, rope) -> x.turn(rope));
    }

    private static void turnTwice() {
        Due.words("Promise 7", "Returns whether it moves to the right then.");
        GlassRopes x = used();
        String before = Due.ropeState(x, 0);
        Due.same("turn(0)", x.turn(0), false);
        Due.same("told(0, 3)", x.told(0, 3), 1);
        Due.same("turn(0), again", x.turn(0), true);
        Due.same("rope 0", Due.ropeState(x, 0), before);
    }

    // ---- promise 8

    private static void wipeWithoutWindows() {
        Due.words("Promise 8", "Throws `IndexOutOfBoundsException` if there is no such window");
        Due.refusesEach(INDEX, "wipe(?)", new int[] {0, -1, 1}, ByHandEdgesTest::withoutRopesAndWindows,
            (x, window) -> x.wipe(window));
    }

    private static void wipeWindow() {
        Due.words("Promise 8", "Throws `IndexOutOfBoundsException` if there is no such window");
        Due.same("wipe(0)", used().wipe(0), 16 - 9);
        Due.same("wipe(1)", used().wipe(1), 12 - 1);
        Due.refusesEach(INDEX, "wipe(?)", new int[] {-1, 2, 5, 6, Due.MIN, Due.MAX}, ByHandEdgesTest::used,
            (x, window) -> x.wipe(window));
        Due.refusesEach(INDEX, "wipe(?) of six", new int[] {6, -1}, ByHandEdgesTest::fullBehindDays,
            (x, window) -> x.wipe(window));
    }

    private static void wipeCleanPanes() {
        Due.words("Promise 8", "Returns how much soot was on them, added.");
        GlassRopes x = new GlassRopes();
        x.window(2, 2, 3, 3, 3);
        Due.same("wipe(0) on clean glass", x.wipe(0), 0);
        x.pass(3);
        Due.same("wipe(0)", x.wipe(0), 27);
        Due.same("wipe(0), again", x.wipe(0), 0);
    }

    private static void wipeAllPanesFullOfSoot() {
        Due.words("Promise 8", "Wipes all panes of a window clean");
        GlassRopes x = new GlassRopes();
        x.window(0, 0, 12, 8, 1);
        x.pass(40);
        Due.same("wipe(0)", x.wipe(0), 96 * 20);
        Due.same("count(5)", x.count(5), 0);
        Due.same("count(6)", x.count(6), 96);
    }

    private static void wipeNoPaneBesides() {
        Due.words("Promise 8", "Wipes all panes of a window clean");
        GlassRopes x = new GlassRopes();
        x.window(4, 3, 2, 1, 1);
        x.pass(2);
        Due.same("wipe(0)", x.wipe(0), 4);
        Due.same("the row above", Due.rowState(x, 2), "2,2,2,2,2,2,2,2,2,2,2,2");
        Due.same("its row", Due.rowState(x, 3), "2,2,2,2,0,0,2,2,2,2,2,2");
        Due.same("the row below", Due.rowState(x, 4), "2,2,2,2,2,2,2,2,2,2,2,2");
    }

    private static void wipeByNoRope() {
        Due.words("Promise 8", "(by no rope)");
        GlassRopes x = used();
        x.wipe(0);
        Due.same("rope 0 hangs on it", Due.ropeState(x, 0), "6 1 20 0 9 1");
        Due.same("count(7)", x.count(7), 12);
        Due.same("count(8)", x.count(8), 0);
        Due.same("count(0)", x.count(0), 1);
    }
}
