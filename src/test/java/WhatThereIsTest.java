/** Promises 10 to 15: soot, about, told, count, isFeast, next. */
public final class WhatThereIsTest {
    public static void main(String[] args) {
        sootOfEachPane();
        aboutTellsAWindow();
        toldTellsARope();
        countTellsAll();
        feastDaysWithoutWindows();
        isFeastGoesByTheDay();
        nextGoesByTheDay();
        nextWithSeveralFeasts();
        Due.end();
    }

    /** Behind 2 days of 2 soot for the columns 0 and 1, and of 1 for the others. */
    private static GlassRopes used() {
        GlassRopes x = new GlassRopes();
        x.window(0, 0, 2, 3, 4);
        x.window(1, 2, 3, 2, 9);
        x.rope(5, 6, true);
        x.rope(1, 9, false);
        x.feast(5, 4);
        x.setWind(1);
        x.pass(2);
        return x;
    }

    private static void sootOfEachPane() {
        GlassRopes x = used();
        // On the day 0 both ropes clean the rows 0 to 2, on the day 1 the rows 3 and 4.
        String[] due = {"4,4,4,4,4,4,4,4", "2,2,2,0,0,4,4,4", "2,2,2,2,2,2,2,2", "2,2,2,2,2,2,2,2", "2,2,2,2,2,2,2,2", "1,1,1,0,0,2,2,2"};
        for (int column = 0; column < 12; column++) {
            Due.same("column " + column, Due.columnState(x, column), column < due.length ? due[column] : due[2]);
        }
        Due.same("soot(0, 0)", x.soot(0, 0), 4);
        Due.same("soot(11, 7)", x.soot(11, 7), 2);
        Due.same("soot(11, 0)", x.soot(11, 0), 2);
        Due.same("soot(0, 7)", x.soot(0, 7), 4);
    }

    private static void aboutTellsAWindow() {
        GlassRopes x = used();
        int[] first = {0, 0, 2, 3, 4, 18, 4, 6};
        int[] second = {1, 2, 3, 2, 9, 10, 2, 44};
        for (int what = 0; what <= 7; what++) {
            Due.same("about(0, " + what + ")", x.about(0, what), first[what]);
            Due.same("about(1, " + what + ")", x.about(1, what), second[what]);
        }
        x.wipe(1);
        Due.same("wiped: about(1, 5)", x.about(1, 5), 0);
        Due.same("wiped: about(1, 6)", x.about(1, 6), 0);
        Due.same("wiped: about(1, 7)", x.about(1, 7), 54);
        Due.same("wiped: about(0, 5), by the pane that they share", x.about(0, 5), 16);
        x.pass(40);
        Due.same("sooty: about(0, 7) is at least 0", x.about(0, 7), 0);
    }

    private static void toldTellsARope() {
        GlassRopes x = used();
        int[] first = {5, 5, 6, 0, 7, 0};
        int[] second = {1, 4, 9, 1, 14, 0};
        for (int what = 0; what <= 5; what++) {
            Due.same("told(0, " + what + ")", x.told(0, what), first[what]);
            Due.same("told(1, " + what + ")", x.told(1, what), second[what]);
        }
        x.move(0, 8);
        x.move(0, 9);
        Due.same("told(0, 5), moved by hand", x.told(0, 5), 2);
        x.pass(2);
        Due.same("told(0, 4)", x.told(0, 4), 17);
        x.pass(1);
        Due.same("told(0, 4), behind a feast day", x.told(0, 4), 17);
    }

    private static void countTellsAll() {
        GlassRopes x = used();
        int[] due = {2, 2, 2, 1, 1, 2 * 96 + 2 * 16 - 21, 4, 21, 0, 0, 50};
        for (int what = 0; what <= 10; what++) {
            Due.same("count(" + what + ")", x.count(what), due[what]);
        }
        x.wipe(0);
        x.wipe(1);
        x.pass(3);
        Due.same("count(0)", x.count(0), 5);
        Due.same("count(9)", x.count(9), 1);
        Due.same("count(8)", x.count(8), x.count(10));
        Due.same("count(10)", x.count(10), x.about(0, 7) + x.about(1, 7));
        Due.same("count(7)", x.count(7), x.told(0, 4) + x.told(1, 4));
    }

    private static void feastDaysWithoutWindows() {
        GlassRopes x = new GlassRopes();
        x.feast(3, 0);
        x.pass(1);
        Due.same("count(9) behind the day 0", x.count(9), 1);
        x.pass(2);
        Due.same("count(9) behind the day 2", x.count(9), 1);
        x.pass(40);
        Due.same("count(9) behind the day 42", x.count(9), 15);
        Due.same("count(8)", x.count(8), 0);
    }

    private static void isFeastGoesByTheDay() {
        for (int day = 1; day <= 40; day++) {
            GlassRopes x = new GlassRopes();
            x.feast(13, 4);
            x.feast(6, 5);
            x.pass(day);
            for (int days = 0; days <= 60; days++) {
                boolean due = (day + days) % 13 == 4 || (day + days) % 6 == 5;
                Due.same("on the day " + day + ": isFeast(" + days + ")", x.isFeast(days), due);
            }
        }
        GlassRopes x = new GlassRopes();
        x.pass(30);
        x.feast(2, 0);
        Due.same("on the day 30 of a new feast: isFeast(0)", x.isFeast(0), true);
    }

    private static void nextGoesByTheDay() {
        GlassRopes x = new GlassRopes();
        x.pass(3);
        Due.same("without feasts", x.next(), -1);
        x.feast(30, 2);
        Due.same("on the day 3", x.next(), 29);
        for (int day = 4; day <= 32; day++) {
            x.pass(1);
            Due.same("on the day " + day, x.next(), 32 - day);
        }
        x.pass(1);
        Due.same("on the day 33", x.next(), 29);
        Due.same("on the day 33: isFeast(29)", x.isFeast(29), true);
        Due.same("on the day 33: isFeast(59)", x.isFeast(59), true);
        Due.same("on the day 33: isFeast(60)", x.isFeast(60), false);
    }

    private static void nextWithSeveralFeasts() {
        GlassRopes x = new GlassRopes();
        x.feast(20, 19);
        Due.same("one", x.next(), 19);
        x.feast(9, 7);
        Due.same("two", x.next(), 7);
        x.feast(30, 12);
        Due.same("three", x.next(), 7);
        x.feast(30, 0);
        Due.same("four", x.next(), 0);
        x.pass(8);
        Due.same("on the day 8", x.next(), 4);
    }
}
