/** Promises 6 to 8: move, turn, wipe. */
public final class ByHandTest {
    public static void main(String[] args) {
        moveHangsTheRopeElsewhere();
        moveAnywhereThatIsFree();
        turnChangesTheWay();
        turnChangesWhereTheRopeGoes();
        wipeCleansJustItsPanes();
        wipeOfSharedPanes();
        Due.end();
    }

    private static void moveHangsTheRopeElsewhere() {
        GlassRopes x = new GlassRopes();
        x.rope(2, 6, false);
        x.rope(4, 1, true);
        x.pass(1);
        Due.same("rope 0 behind a day", Due.ropeState(x, 0), "2 3 6 1 3 0");
        Due.same("move(0, 9)", x.move(0, 9), 2);
        Due.same("rope 0, moved", Due.ropeState(x, 0), "9 0 6 1 3 1");
        Due.same("rope 1, left alone", Due.ropeState(x, 1), "4 0 1 0 1 0");
        Due.same("move(0, 2)", x.move(0, 2), 9);
        Due.same("rope 0, moved back", Due.ropeState(x, 0), "2 0 6 1 3 2");
        Due.same("count(0)", x.count(0), 1);
        Due.same("count(5): moving cleans nothing", x.count(5), 92);
    }

    private static void moveAnywhereThatIsFree() {
        GlassRopes x = new GlassRopes();
        x.rope(5, 3, true);
        Due.same("move(0, 11)", x.move(0, 11), 5);
        Due.same("move(0, 0)", x.move(0, 0), 11);
        Due.same("rope 0", Due.ropeState(x, 0), "0 0 3 0 0 2");
    }

    private static void turnChangesTheWay() {
        GlassRopes x = new GlassRopes();
        x.rope(5, 6, true);
        x.rope(7, 6, false);
        x.pass(1);
        Due.same("turn(0)", x.turn(0), false);
        Due.same("rope 0", Due.ropeState(x, 0), "5 3 6 1 3 0");
        Due.same("rope 1", Due.ropeState(x, 1), "7 3 6 1 3 0");
        Due.same("turn(0), again", x.turn(0), true);
        Due.same("rope 0", Due.ropeState(x, 0), "5 3 6 0 3 0");
        Due.same("turn(1)", x.turn(1), true);
        Due.same("rope 1", Due.ropeState(x, 1), "7 3 6 0 3 0");
    }

    private static void turnChangesWhereTheRopeGoes() {
        GlassRopes x = new GlassRopes();
        x.rope(5, 18, true);
        x.rope(8, 18, false);
        x.turn(0);
        x.turn(1);
        x.pass(1);
        Due.same("told(0, 0)", x.told(0, 0), 4);
        Due.same("told(1, 0)", x.told(1, 0), 9);
    }

    private static void wipeCleansJustItsPanes() {
        GlassRopes x = new GlassRopes();
        x.window(3, 2, 2, 3, 4);
        x.window(0, 0, 1, 1, 1);
        x.rope(11, 3, true);
        x.setWind(2);
        x.pass(2);
        x.setWind(5);
        x.pass(1);
        // Column 3: 2 + 2 + 5 = 9; column 4: 1 + 1 + 4 = 6.
        int cleaned = x.count(7);
        int all = x.count(5);
        Due.same("wipe(0)", x.wipe(0), 3 * 9 + 3 * 6);
        Due.same("column 3", Due.columnState(x, 3), "9,9,0,0,0,9,9,9");
        Due.same("column 4", Due.columnState(x, 4), "6,6,0,0,0,6,6,6");
        Due.same("column 2", Due.columnState(x, 2), "9,9,9,9,9,9,9,9");
        Due.same("column 5", Due.columnState(x, 5), "6,6,6,6,6,6,6,6");
        Due.same("count(5)", x.count(5), all - 45);
        Due.same("count(7): no rope cleaned it", x.count(7), cleaned);
        Due.same("told(0, 4)", x.told(0, 4), cleaned);
        Due.same("count(8): no coins", x.count(8), 0);
        Due.same("count(0): no day", x.count(0), 3);
        Due.same("wipe(0), again", x.wipe(0), 0);
        Due.same("about(0, 7)", x.about(0, 7), 24);
    }

    private static void wipeOfSharedPanes() {
        GlassRopes x = new GlassRopes();
        x.window(0, 0, 12, 8, 1);
        x.window(10, 6, 2, 2, 1);
        x.pass(40);
        Due.same("wipe(1)", x.wipe(1), 80);
        Due.same("about(0, 5)", x.about(0, 5), 1920 - 80);
        Due.same("wipe(0)", x.wipe(0), 1920 - 80);
        Due.same("count(6)", x.count(6), 96);
    }
}
