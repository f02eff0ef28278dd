/** Promises 16 to 20: would, until, advise, mean, digest. */
public final class WhatWouldBeTest {
    public static void main(String[] args) {
        wouldTellsWhatPassBrings();
        wouldByHand();
        untilNow();
        untilByHand();
        untilIsAsPassDoes();
        untilAtMostSixty();
        adviseByHand();
        adviseTakesTheSmallest();
        adviseAtItsOwnColumnGoesOn();
        adviseLetsTheOthersWork();
        adviseEndsBehindTheNextFeast();
        meanOfAllPanes();
        digestOfAll();
        nothingIsChanged();
        Due.end();
    }

    private static GlassRopes used() {
        GlassRopes x = new GlassRopes();
        x.window(0, 0, 2, 3, 4);
        x.window(1, 2, 3, 2, 9);
        x.window(8, 1, 4, 7, 6);
        x.rope(5, 16, true);
        x.rope(1, 29, false);
        x.rope(9, 8, false);
        x.feast(5, 4);
        x.feast(9, 3);
        x.setWind(-2);
        x.pass(2);
        return x;
    }

    private static void wouldTellsWhatPassBrings() {
        for (int days = 1; days <= 40; days++) {
            GlassRopes x = used();
            x.pass(3);
            int soot = x.would(days, 0);
            int coins = x.would(days, 1);
            int cleaned = x.would(days, 2);
            x.pass(days);
            Due.same("would(" + days + ", 0)", soot, x.count(5));
            Due.same("would(" + days + ", 1)", coins, x.count(8));
            Due.same("would(" + days + ", 2)", cleaned, x.count(7));
        }
    }

    private static void wouldByHand() {
        GlassRopes x = new GlassRopes();
        x.window(0, 0, 1, 1, 9);
        x.feast(2, 1);
        x.rope(11, 1, true);
        x.pass(2);
        Due.same("count(8)", x.count(8), 7);
        Due.same("would(1, 0)", x.would(1, 0), 3 * 96 - 2);
        Due.same("would(1, 1): coins in all, those that there are as well", x.would(1, 1), 7);
        Due.same("would(2, 1)", x.would(2, 1), 7 + 5);
        Due.same("would(2, 2): cleaned in all", x.would(2, 2), 2);
        Due.same("would(40, 2)", x.would(40, 2), 21);
        Due.same("would(40, 1)", x.would(40, 1), 7 + 5 + 3 + 1);
    }

    private static void untilNow() {
        GlassRopes x = new GlassRopes();
        x.window(2, 2, 3, 3, 1);
        Due.same("until(0) on clean glass", x.until(0), 0);
        x.pass(1);
        Due.same("until(0) with as much soot as panes", x.until(0), 0);
        x.pass(1);
        Due.same("until(0) without ropes", x.until(0), -1);
        x.wipe(0);
        Due.same("until(0), wiped", x.until(0), 0);
    }

    private static void untilByHand() {
        GlassRopes x = new GlassRopes();
        x.window(0, 4, 1, 2, 1);
        x.window(0, 0, 1, 1, 1);
        x.rope(5, 30, true);
        x.pass(2);
        x.move(0, 0);
        // On the day 2 there are 3 on each pane: the rows 0 to 6 take 21 and 6 ways down, 3 are left for the row 7.
        Due.same("until(0)", x.until(0), 1);
        Due.same("until(1)", x.until(1), 1);
        x.turn(0);
        x.setWind(5);
        // Now each row gets 6 more a day: the rows 4 and 5 are not cleaned on one day any more.
        Due.same("until(0) with wind", x.until(0), -1);
        Due.same("until(1) with wind", x.until(1), 1);
        x.feast(2, 0);
        Due.same("until(1) if the day 2 is a feast day", x.until(1), 2);
    }

    private static void untilIsAsPassDoes() {
        GlassRopes x = used();
        x.pass(20);
        for (int window = 0; window < 3; window++) {
            GlassRopes y = used();
            y.pass(20);
            int panes = y.about(window, 2) * y.about(window, 3);
            int due = -1;
            for (int days = 0; days <= 60 && due < 0; days++) {
                if (y.about(window, 5) <= panes) {
                    due = days;
                }
                y.pass(1);
            }
            Due.same("until(" + window + ")", x.until(window), due);
        }
    }

    /** A rope that comes to the window's column behind just 60 days, and one that comes a day later. */
    private static void untilAtMostSixty() {
        int met = 0;
        int missed = 0;
        for (int strength = 1; strength <= 30; strength++) {
            for (int column = 0; column < 12; column++) {
                for (int row = 0; row < 8; row++) {
                    GlassRopes x = new GlassRopes();
                    x.window(column, row, 1, 1, 1);
                    x.rope(0, strength, true);
                    x.pass(3);
                    int told = x.until(0);
                    int due = daysByHand(x, 62);
                    met += due == 60 ? 1 : 0;
                    missed += due == 61 ? 1 : 0;
                    Due.same("strength " + strength + ", pane " + column + " " + row + ": until(0)", told, due > 60 ? -1 : due);
                }
            }
        }
        Due.same("some window is clean behind 60 days", met > 0, true);
        Due.same("some window is clean behind 61 days", missed > 0, true);
    }

    private static int daysByHand(GlassRopes x, int most) {
        for (int days = 0; days <= most; days++) {
            if (x.about(0, 5) <= x.about(0, 2) * x.about(0, 3)) {
                return days;
            }
            x.pass(1);
        }
        return -1;
    }

    private static void adviseByHand() {
        GlassRopes x = new GlassRopes();
        x.window(7, 0, 1, 8, 9);
        x.rope(2, 10, true);
        x.feast(10, 1);
        Due.same("advise(0)", x.advise(0), 7);
        x.move(0, 7);
        Due.same("advise(0) at its best column", x.advise(0), 7);
        Due.same("told(0, 5)", x.told(0, 5), 1);
        x.move(0, 3);
        x.window(4, 0, 1, 2, 9);
        Due.same("advise(0), more panes are at 7", x.advise(0), 7);
        x.turn(0);
        Due.same("advise(0), its way does not reach both", x.advise(0), 7);
    }

    private static void adviseTakesTheSmallest() {
        GlassRopes x = new GlassRopes();
        x.rope(5, 10, true);
        x.rope(0, 10, true);
        x.rope(1, 10, true);
        x.feast(9, 4);
        Due.same("without windows: advise(0)", x.advise(0), 2);
        Due.same("without windows: advise(1), its own is the smallest", x.advise(1), 0);
        Due.same("without windows: advise(2)", x.advise(2), 1);
        GlassRopes y = new GlassRopes();
        y.window(0, 0, 12, 8, 9);
        y.rope(5, 10, true);
        y.feast(2, 0);
        Due.same("nobody works on this day's feast: advise(0)", y.advise(0), 0);
        GlassRopes z = new GlassRopes();
        z.window(3, 0, 1, 4, 9);
        z.window(8, 0, 1, 4, 9);
        z.rope(11, 4, true);
        z.feast(6, 1);
        Due.same("two columns as good: advise(0)", z.advise(0), 3);
        z.move(0, 8);
        Due.same("two columns as good, at the greater one: advise(0)", z.advise(0), 3);
        z.rope(3, 1, false);
        z.move(0, 10);
        Due.same("at the smaller one hangs another: advise(0)", z.advise(0), 8);
    }

    private static void adviseAtItsOwnColumnGoesOn() {
        GlassRopes x = new GlassRopes();
        x.window(4, 4, 1, 4, 9);
        x.window(6, 0, 1, 1, 9);
        x.rope(4, 9, true);
        x.feast(3, 2);
        x.pass(1);
        // From the row 4 he takes 6 soot off this window; from the row 0 on he would take 1, less than the 2 at (6, 0).
        Due.same("told(0, 1)", x.told(0, 1), 4);
        Due.same("advise(0)", x.advise(0), 4);
        GlassRopes y = new GlassRopes();
        y.window(4, 0, 1, 2, 9);
        y.window(6, 0, 1, 1, 9);
        y.rope(4, 9, true);
        y.feast(3, 2);
        y.pass(1);
        // Here the cleaner is below the window already, and his column is not looked at as if moved to it.
        Due.same("advise(0) below its window", y.advise(0), 6);
    }

    private static void adviseLetsTheOthersWork() {
        GlassRopes x = new GlassRopes();
        x.window(4, 0, 1, 8, 9);
        x.window(5, 0, 1, 8, 2);
        x.rope(3, 19, true);
        x.rope(11, 10, true);
        x.feast(3, 2);
        // Rope 0 goes to the column 4 on the day 0 if that is free, and cleans all of it on the day 1; rope 1 had best hang at 5 or at 4.
        int best = -1;
        int most = -1;
        for (int column = 0; column < 12; column++) {
            GlassRopes y = new GlassRopes();
            y.window(4, 0, 1, 8, 9);
            y.window(5, 0, 1, 8, 2);
            y.rope(3, 19, true);
            y.rope(11, 10, true);
            y.feast(3, 2);
            if (column != 11 && column != 3) {
                y.move(1, column);
            }
            int coins = y.pass(3);
            if (column != 3 && coins > most) {
                most = coins;
                best = column;
            }
        }
        Due.same("advise(1)", x.advise(1), best);
        Due.same("advise(1) is not where rope 0 hangs", best != 3, true);
    }

    private static void adviseEndsBehindTheNextFeast() {
        GlassRopes x = new GlassRopes();
        x.window(7, 0, 1, 8, 9);
        x.rope(7, 10, true);
        x.feast(4, 1);
        x.feast(4, 2);
        // The coins of the second feast day count for no column.
        Due.same("advise(0) at its best column", x.advise(0), 7);
        x.move(0, 2);
        Due.same("advise(0) elsewhere", x.advise(0), 7);
        GlassRopes y = new GlassRopes();
        y.window(3, 0, 1, 1, 9);
        y.window(8, 0, 1, 2, 9);
        y.rope(11, 1, true);
        y.feast(3, 2);
        y.pass(2);
        // The day 2 is a feast day: nobody works before it, and the feast day behind it is too late.
        Due.same("advise(0) on a feast day", y.advise(0), 0);
        y.pass(1);
        Due.same("advise(0) behind the feast day", y.advise(0), 3);
    }

    private static void meanOfAllPanes() {
        GlassRopes x = new GlassRopes();
        Due.same("mean() of clean glass", x.mean(), 0.0);
        x.pass(1);
        Due.same("mean() behind a day", x.mean(), 1.0);
        x.rope(0, 1, true);
        x.pass(1);
        Due.same("mean() of 191", x.mean(), 191.0 / 96.0);
        x.pass(40);
        x.window(0, 0, 12, 4, 1);
        x.wipe(0);
        Due.same("mean() of half the panes", x.mean(), 10.0);
    }

    private static void digestOfAll() {
        for (int i = 0; i < 12; i++) {
            GlassRopes x = used();
            x.turn(i % 3);
            x.setWind(i % 11 - 5);
            x.pass(1 + 3 * i);
            Due.same("digest(), " + i, x.digest(), digestByHand(x));
        }
    }

    private static long digestByHand(GlassRopes x) {
        long d = 1823;
        for (int what = 0; what <= 10; what++) {
            d = d * 31 + x.count(what);
        }
        for (int window = 0; window < x.count(1); window++) {
            for (int what = 0; what <= 7; what++) {
                d = d * 31 + x.about(window, what);
            }
        }
        for (int rope = 0; rope < x.count(2); rope++) {
            for (int what = 0; what <= 5; what++) {
                d = d * 31 + x.told(rope, what);
            }
        }
        for (int column = 0; column < 12; column++) {
            for (int row = 0; row < 8; row++) {
                d = d * 31 + x.soot(column, row);
            }
        }
        return d;
    }

    private static void nothingIsChanged() {
        GlassRopes x = used();
        String before = Due.state(x);
        long digest = x.digest();
        for (int i = 0; i < 3; i++) {
            x.would(40, i);
            x.until(i);
            x.advise(i);
            x.mean();
            x.next();
        }
        Due.same("the state behind looks ahead", Due.state(x), before);
        Due.same("digest() behind looks ahead", x.digest(), digest);
    }
}
