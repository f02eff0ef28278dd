/** Promises 1 to 5: a new object, window, rope, feast, setWind. */
public final class CathedralTest {
    public static void main(String[] args) {
        newObject();
        newObjectsAreApart();
        windowsAreNumbered();
        windowEdges();
        ropesAreNumbered();
        feastsAreNumbered();
        windAnswersTheOneBefore();
        windBringsSoot();
        Due.end();
    }

    private static void newObject() {
        GlassRopes x = new GlassRopes();
        int[] counts = {0, 0, 0, 0, 0, 0, 96, 0, 0, 0, 0};
        for (int what = 0; what < counts.length; what++) {
            Due.same("new: count(" + what + ")", x.count(what), counts[what]);
        }
        for (int column = 0; column < 12; column++) {
            Due.same("new: column " + column, Due.columnState(x, column), "0,0,0,0,0,0,0,0");
        }
        for (int days = 0; days <= 60; days++) {
            Due.same("new: isFeast(" + days + ")", x.isFeast(days), false);
        }
        Due.same("new: next()", x.next(), -1);
        Due.same("new: mean()", x.mean(), 0.0);
    }

    private static void newObjectsAreApart() {
        GlassRopes used = new GlassRopes();
        GlassRopes other = new GlassRopes();
        String before = Due.state(other);
        used.window(0, 0, 2, 2, 2);
        used.rope(1, 5, true);
        used.feast(3, 1);
        used.setWind(4);
        used.pass(7);
        used.would(9, 0);
        Due.same("an object of which nothing was asked", Due.state(other), before);
        Due.same("an object made later", Due.state(new GlassRopes()), before);
    }

    private static void windowsAreNumbered() {
        GlassRopes x = new GlassRopes();
        Due.same("window(1, 2, 3, 4, 5)", x.window(1, 2, 3, 4, 5), 0);
        Due.same("window(1, 2, 3, 4, 5), again", x.window(1, 2, 3, 4, 5), 1);
        Due.same("window(2, 3, 3, 4, 1)", x.window(2, 3, 3, 4, 1), 2);
        Due.same("window(0, 0, 12, 8, 9)", x.window(0, 0, 12, 8, 9), 3);
        Due.same("count(1)", x.count(1), 4);
        int[] first = {1, 2, 3, 4, 5, 0, 0, 60};
        int[] last = {0, 0, 12, 8, 9, 0, 0, 864};
        for (int what = 0; what <= 7; what++) {
            Due.same("about(0, " + what + ")", x.about(0, what), first[what]);
            Due.same("about(1, " + what + ")", x.about(1, what), first[what]);
            Due.same("about(3, " + what + ")", x.about(3, what), last[what]);
        }
    }

    private static void windowEdges() {
        GlassRopes x = new GlassRopes();
        Due.same("window(11, 7, 1, 1, 1)", x.window(11, 7, 1, 1, 1), 0);
        Due.same("window(0, 7, 12, 1, 9)", x.window(0, 7, 12, 1, 9), 1);
        Due.same("window(11, 0, 1, 8, 1)", x.window(11, 0, 1, 8, 1), 2);
        Due.same("window(4, 3, 8, 5, 3)", x.window(4, 3, 8, 5, 3), 3);
        Due.same("window(0, 0, 1, 1, 1)", x.window(0, 0, 1, 1, 1), 4);
        Due.same("about(3, 7)", x.about(3, 7), 120);
    }

    private static void ropesAreNumbered() {
        GlassRopes x = new GlassRopes();
        Due.same("rope(11, 1, true)", x.rope(11, 1, true), 0);
        Due.same("rope(0, 30, false)", x.rope(0, 30, false), 1);
        Due.same("rope(5, 7, true)", x.rope(5, 7, true), 2);
        Due.same("rope 0", Due.ropeState(x, 0), "11 0 1 0 0 0");
        Due.same("rope 1", Due.ropeState(x, 1), "0 0 30 1 0 0");
        Due.same("rope 2", Due.ropeState(x, 2), "5 0 7 0 0 0");
        Due.same("count(2)", x.count(2), 3);
    }

    private static void feastsAreNumbered() {
        GlassRopes x = new GlassRopes();
        Due.same("feast(30, 29)", x.feast(30, 29), 0);
        Due.same("feast(7, 3)", x.feast(7, 3), 1);
        Due.same("feast(7, 3), again", x.feast(7, 3), 2);
        Due.same("feast(2, 0)", x.feast(2, 0), 3);
        Due.same("count(3)", x.count(3), 4);
        for (int days = 0; days <= 60; days++) {
            Due.same("isFeast(" + days + ")", x.isFeast(days), days % 30 == 29 || days % 7 == 3 || days % 2 == 0);
        }
    }

    private static void windAnswersTheOneBefore() {
        GlassRopes x = new GlassRopes();
        Due.same("setWind(5)", x.setWind(5), 0);
        Due.same("count(4)", x.count(4), 5);
        Due.same("setWind(-5)", x.setWind(-5), 5);
        Due.same("count(4)", x.count(4), -5);
        Due.same("setWind(-5), again", x.setWind(-5), -5);
        Due.same("setWind(0)", x.setWind(0), -5);
        Due.same("count(4)", x.count(4), 0);
        Due.same("count(5): wind alone brings no soot", x.count(5), 0);
    }

    private static void windBringsSoot() {
        int[] winds = {0, 1, 2, 3, 5, -1, -4, -5};
        int[][] soots = {
            {1, 1, 1, 1, 1, 1, 1, 1, 1, 1, 1, 1},
            {2, 2, 1, 1, 1, 1, 1, 1, 1, 1, 1, 1},
            {3, 3, 2, 2, 1, 1, 1, 1, 1, 1, 1, 1},
            {4, 4, 3, 3, 2, 2, 1, 1, 1, 1, 1, 1},
            {6, 6, 5, 5, 4, 4, 3, 3, 2, 2, 1, 1},
            {1, 1, 1, 1, 1, 1, 1, 1, 1, 1, 2, 2},
            {1, 1, 1, 1, 2, 2, 3, 3, 4, 4, 5, 5},
            {1, 1, 2, 2, 3, 3, 4, 4, 5, 5, 6, 6}};
        for (int i = 0; i < winds.length; i++) {
            GlassRopes x = new GlassRopes();
            x.setWind(winds[i]);
            x.pass(1);
            for (int column = 0; column < 12; column++) {
                for (int row = 0; row < 8; row++) {
                    Due.same("wind " + winds[i] + ": soot(" + column + ", " + row + ")", x.soot(column, row), soots[i][column]);
                }
            }
        }
    }
}
