/** Promises 1 to 5: a new object, window, rope, feast, setWind. */
public final class CathedralTest {
    private static final int[] FAR = {Integer.MIN_VALUE, -1000, 1000, Integer.MAX_VALUE};

    public static void main(String[] args) {
        newObject();
        newObjectsAreApart();
        windowsAreNumbered();
        windowEdges();
        windowWrongArguments();
        windowWrongPlaces();
        windowTooMany();
        ropesAreNumbered();
        ropeWrongColumns();
        ropeWrongStrengths();
        ropeWhereOneHangs();
        ropeTooMany();
        feastsAreNumbered();
        feastWrongArguments();
        feastTooMany();
        windAnswersTheOneBefore();
        windBringsSoot();
        windWrongArguments();
        Due.end();
    }

    private static void newObject() {
        GlassRopes x = new GlassRopes();
        int[] counts = {0, 0, 0, 0, 0, 0, 96, 0, 0, 0, 0};
        for (int what = 0; what < counts.length; what++) {
            Due.same("new: count(" + what + ")", x.count(what), counts[what]);
        }
        for (int column = 0; column < 12; column++) {
            Due.same("new: column " + column, Due.columnState(x, column), "0,0,0,0,0,0,0,0");
        }
        for (int days = 0; days <= 60; days++) {
            Due.same("new: isFeast(" + days + ")", x.isFeast(days), false);
        }
        Due.same("new: next()", x.next(), -1);
        Due.same("new: mean()", x.mean(), 0.0);
        Due.refusesIndex(x, "new: about(0, 0)", () -> x.about(0, 0));
        Due.refusesIndex(x, "new: told(0, 0)", () -> x.told(0, 0));
    }

    private static void newObjectsAreApart() {
        GlassRopes used = new GlassRopes();
        GlassRopes other = new GlassRopes();
        String before = Due.state(other);
        used.window(0, 0, 2, 2, 2);
        used.rope(1, 5, true);
        used.feast(3, 1);
        used.setWind(4);
        used.pass(7);
        used.would(9, 0);
        Due.same("an object of which nothing was asked", Due.state(other), before);
        Due.same("an object made later", Due.state(new GlassRopes()), before);
    }

    private static void windowsAreNumbered() {
        GlassRopes x = new GlassRopes();
        Due.same("window(1, 2, 3, 4, 5)", x.window(1, 2, 3, 4, 5), 0);
        Due.same("window(1, 2, 3, 4, 5), again", x.window(1, 2, 3, 4, 5), 1);
        Due.same("window(2, 3, 3, 4, 1)", x.window(2, 3, 3, 4, 1), 2);
        Due.same("window(0, 0, 12, 8, 9)", x.window(0, 0, 12, 8, 9), 3);
        Due.same("count(1)", x.count(1), 4);
        int[] first = {1, 2, 3, 4, 5, 0, 0, 60};
        int[] last = {0, 0, 12, 8, 9, 0, 0, 864};
        for (int what = 0; what <= 7; what++) {
            Due.same("about(0, " + what + ")", x.about(0, what), first[what]);
            Due.same("about(1, " + what + ")", x.about(1, what), first[what]);
            Due.same("about(3, " + what + ")", x.about(3, what), last[what]);
        }
    }

    private static void windowEdges() {
        GlassRopes x = new GlassRopes();
        Due.same("window(11, 7, 1, 1, 1)", x.window(11, 7, 1, 1, 1), 0);
        Due.same("window(0, 7, 12, 1, 9)", x.window(0, 7, 12, 1, 9), 1);
        Due.same("window(11, 0, 1, 8, 1)", x.window(11, 0, 1, 8, 1), 2);
        Due.same("window(4, 3, 8, 5, 3)", x.window(4, 3, 8, 5, 3), 3);
        Due.same("window(0, 0, 1, 1, 1)", x.window(0, 0, 1, 1, 1), 4);
        Due.same("about(3, 7)", x.about(3, 7), 120);
    }

    private static void windowWrongArguments() {
        GlassRopes x = new GlassRopes();
        x.window(0, 0, 2, 2, 2);
        for (int w : new int[] {0, 13, -1, Integer.MIN_VALUE, Integer.MAX_VALUE}) {
            Due.refusesArgument(x, "window(0, 0, " + w + ", 1, 1)", () -> x.window(0, 0, w, 1, 1));
            Due.refusesArgument(x, "window(-1, 9, " + w + ", 1, 1)", () -> x.window(-1, 9, w, 1, 1));
        }
        for (int h : new int[] {0, 9, -1, Integer.MIN_VALUE, Integer.MAX_VALUE}) {
            Due.refusesArgument(x, "window(0, 0, 1, " + h + ", 1)", () -> x.window(0, 0, 1, h, 1));
            Due.refusesArgument(x, "window(12, -1, 1, " + h + ", 1)", () -> x.window(12, -1, 1, h, 1));
        }
        for (int worth : new int[] {0, 10, -1, Integer.MIN_VALUE, Integer.MAX_VALUE}) {
            Due.refusesArgument(x, "window(0, 0, 1, 1, " + worth + ")", () -> x.window(0, 0, 1, 1, worth));
            Due.refusesArgument(x, "window(12, 8, 1, 1, " + worth + ")", () -> x.window(12, 8, 1, 1, worth));
        }
    }

    private static void windowWrongPlaces() {
        GlassRopes x = new GlassRopes();
        x.window(0, 0, 2, 2, 2);
        int[][] wrong = {{-1, 0, 1, 1}, {12, 0, 1, 1}, {11, 0, 2, 1}, {1, 0, 12, 1}, {-1, 0, 12, 8},
            {0, -1, 1, 1}, {0, 8, 1, 1}, {0, 7, 1, 2}, {0, 1, 1, 8}, {0, -1, 12, 8}};
        for (int[] p : wrong) {
            Due.refusesIndex(x, "window(" + p[0] + ", " + p[1] + ", " + p[2] + ", " + p[3] + ", 1)",
                () -> x.window(p[0], p[1], p[2], p[3], 1));
        }
        for (int far : FAR) {
            Due.refusesIndex(x, "window(" + far + ", 0, 12, 1, 1)", () -> x.window(far, 0, 12, 1, 1));
            Due.refusesIndex(x, "window(0, " + far + ", 1, 8, 1)", () -> x.window(0, far, 1, 8, 1));
        }
    }

    private static void windowTooMany() {
        GlassRopes x = new GlassRopes();
        for (int number = 0; number < 6; number++) {
            Due.same("window " + number, x.window(number, 0, 1, 1, 1), number);
        }
        Due.refusesState(x, "a window above 6", () -> x.window(0, 0, 1, 1, 1));
        Due.refusesIndex(x, "a window above 6 at a wrong place", () -> x.window(12, 0, 1, 1, 1));
        Due.refusesArgument(x, "a window above 6 of worth 10", () -> x.window(0, 0, 1, 1, 10));
    }

    private static void ropesAreNumbered() {
        GlassRopes x = new GlassRopes();
        Due.same("rope(11, 1, true)", x.rope(11, 1, true), 0);
        Due.same("rope(0, 30, false)", x.rope(0, 30, false), 1);
        Due.same("rope(5, 7, true)", x.rope(5, 7, true), 2);
        Due.same("rope 0", Due.ropeState(x, 0), "11 0 1 0 0 0");
        Due.same("rope 1", Due.ropeState(x, 1), "0 0 30 1 0 0");
        Due.same("rope 2", Due.ropeState(x, 2), "5 0 7 0 0 0");
        Due.same("count(2)", x.count(2), 3);
    }

    private static void ropeWrongColumns() {
        GlassRopes x = new GlassRopes();
        x.rope(3, 4, true);
        for (int column : new int[] {-1, 12, Integer.MIN_VALUE, Integer.MAX_VALUE}) {
            Due.refusesIndex(x, "rope(" + column + ", 4, true)", () -> x.rope(column, 4, true));
            Due.refusesIndex(x, "rope(" + column + ", 0, true)", () -> x.rope(column, 0, true));
        }
    }

    private static void ropeWrongStrengths() {
        GlassRopes x = new GlassRopes();
        x.rope(3, 4, true);
        for (int strength : new int[] {0, 31, -1, Integer.MIN_VALUE, Integer.MAX_VALUE}) {
            Due.refusesArgument(x, "rope(4, " + strength + ", true)", () -> x.rope(4, strength, true));
            Due.refusesArgument(x, "rope(3, " + strength + ", false)", () -> x.rope(3, strength, false));
        }
    }

    private static void ropeWhereOneHangs() {
        GlassRopes x = new GlassRopes();
        x.rope(3, 4, true);
        x.rope(0, 4, true);
        Due.refusesState(x, "rope(3, 9, false), where rope 0 hangs", () -> x.rope(3, 9, false));
        Due.refusesState(x, "rope(0, 9, false), where rope 1 hangs", () -> x.rope(0, 9, false));
        x.move(0, 7);
        Due.refusesState(x, "rope(7, 9, false), where rope 0 hangs now", () -> x.rope(7, 9, false));
        Due.same("rope(3, 9, false), where none hangs any more", x.rope(3, 9, false), 2);
    }

    private static void ropeTooMany() {
        GlassRopes x = new GlassRopes();
        for (int number = 0; number < 6; number++) {
            Due.same("rope " + number, x.rope(2 * number, 1 + number, false), number);
        }
        Due.refusesState(x, "a rope above 6", () -> x.rope(1, 1, true));
        Due.refusesState(x, "a rope above 6, where one hangs", () -> x.rope(2, 1, true));
        Due.refusesArgument(x, "a rope above 6 of strength 31", () -> x.rope(1, 31, true));
        Due.refusesIndex(x, "a rope above 6 at the column 12", () -> x.rope(12, 1, true));
    }

    private static void feastsAreNumbered() {
        GlassRopes x = new GlassRopes();
        Due.same("feast(30, 29)", x.feast(30, 29), 0);
        Due.same("feast(7, 3)", x.feast(7, 3), 1);
        Due.same("feast(7, 3), again", x.feast(7, 3), 2);
        Due.same("feast(2, 0)", x.feast(2, 0), 3);
        Due.same("count(3)", x.count(3), 4);
        for (int days = 0; days <= 60; days++) {
            Due.same("isFeast(" + days + ")", x.isFeast(days), days % 30 == 29 || days % 7 == 3 || days % 2 == 0);
        }
    }

    private static void feastWrongArguments() {
        GlassRopes x = new GlassRopes();
        x.feast(5, 2);
        for (int every : new int[] {1, 0, -1, -5, 31, Integer.MIN_VALUE, Integer.MAX_VALUE}) {
            Due.refusesArgument(x, "feast(" + every + ", 0)", () -> x.feast(every, 0));
        }
        for (int on : new int[] {-1, 9, 10, Integer.MIN_VALUE, Integer.MAX_VALUE}) {
            Due.refusesArgument(x, "feast(9, " + on + ")", () -> x.feast(9, on));
        }
        Due.refusesArgument(x, "feast(2, 2)", () -> x.feast(2, 2));
        Due.refusesArgument(x, "feast(30, 30)", () -> x.feast(30, 30));
        Due.same("feast(2, 1)", x.feast(2, 1), 1);
    }

    private static void feastTooMany() {
        GlassRopes x = new GlassRopes();
        for (int number = 0; number < 4; number++) {
            Due.same("feast " + number, x.feast(20 + number, number), number);
        }
        Due.refusesState(x, "a feast above 4", () -> x.feast(3, 2));
        Due.refusesState(x, "a feast above 4 that is there", () -> x.feast(20, 0));
        Due.refusesArgument(x, "a feast above 4 of every 1", () -> x.feast(1, 0));
        Due.refusesArgument(x, "a feast above 4 on its every", () -> x.feast(3, 3));
    }

    private static void windAnswersTheOneBefore() {
        GlassRopes x = new GlassRopes();
        Due.same("setWind(5)", x.setWind(5), 0);
        Due.same("count(4)", x.count(4), 5);
        Due.same("setWind(-5)", x.setWind(-5), 5);
        Due.same("count(4)", x.count(4), -5);
        Due.same("setWind(-5), again", x.setWind(-5), -5);
        Due.same("setWind(0)", x.setWind(0), -5);
        Due.same("count(4)", x.count(4), 0);
        Due.same("count(5): wind alone brings no soot", x.count(5), 0);
    }

    private static void windBringsSoot() {
        int[] winds = {0, 1, 2, 3, 5, -1, -4, -5};
        int[][] soots = {
            {1, 1, 1, 1, 1, 1, 1, 1, 1, 1, 1, 1},
            {2, 2, 1, 1, 1, 1, 1, 1, 1, 1, 1, 1},
            {3, 3, 2, 2, 1, 1, 1, 1, 1, 1, 1, 1},
            {4, 4, 3, 3, 2, 2, 1, 1, 1, 1, 1, 1},
            {6, 6, 5, 5, 4, 4, 3, 3, 2, 2, 1, 1},
            {1, 1, 1, 1, 1, 1, 1, 1, 1, 1, 2, 2},
            {1, 1, 1, 1, 2, 2, 3, 3, 4, 4, 5, 5},
            {1, 1, 2, 2, 3, 3, 4, 4, 5, 5, 6, 6}};
        for (int i = 0; i < winds.length; i++) {
            GlassRopes x = new GlassRopes();
            x.setWind(winds[i]);
            x.pass(1);
            for (int column = 0; column < 12; column++) {
                for (int row = 0; row < 8; row++) {
                    Due.same("wind " + winds[i] + ": soot(" + column + ", " + row + ")", x.soot(column, row), soots[i][column]);
                }
            }
        }
    }

    private static void windWrongArguments() {
        GlassRopes x = new GlassRopes();
        x.setWind(3);
        for (int wind : new int[] {-6, 6, Integer.MIN_VALUE, Integer.MAX_VALUE}) {
            Due.refusesArgument(x, "setWind(" + wind + ")", () -> x.setWind(wind));
        }
    }
}
