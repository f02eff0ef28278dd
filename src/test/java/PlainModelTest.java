import java.util.ArrayList;
import java.util.List;

/** Long runs of calls, the same at each time, whose answers a second, slower model of the document tells. */
public final class PlainModelTest {
    private static final int RUNS = 150;
    /** One less than an object is used for: the last one is digest(). */
    private static final int CALLS = 511;
    /** Long passes leave all glass at its most soot, where no column is better than another: so not each run has them. */
    private static final Style[] STYLES = {
        new Style(40, 5, 12, 8, 1), new Style(6, 5, 12, 8, 1), new Style(2, 1, 3, 3, 12), new Style(1, 0, 1, 2, 20)};

    private static long seed;

    public static void main(String[] args) {
        for (int run = 0; run < RUNS; run++) {
            seed = run * 7919L + 17;
            oneRun(run);
        }
        Due.end();
    }

    /** The numbers of the runs: a plain generator, so that a run is the same on each machine. */
    private static int some(int below) {
        seed = seed * 6364136223846793005L + 1442695040888963407L;
        return (int) ((seed >>> 33) % below);
    }

    /** From low to high, and now and then a bit or far outside. */
    private static int near(int low, int high) {
        int kind = some(60);
        if (kind == 0) {
            return low - 1;
        }
        if (kind == 1) {
            return high + 1;
        }
        if (kind == 2) {
            return some(2) == 0 ? Integer.MIN_VALUE : Integer.MAX_VALUE;
        }
        return low + some(high - low + 1);
    }

    private static void oneRun(int run) {
        GlassRopes x = new GlassRopes();
        Model m = new Model();
        Style style = STYLES[run % STYLES.length];
        for (int call = 0; call < CALLS; call++) {
            oneCall(x, m, "run " + run + ", call " + call + ": ", some(call < 20 ? 6 : 22), style);
        }
        Due.same("run " + run + ": digest()", x.digest(), m.digest());
    }

    private static void oneCall(GlassRopes x, Model m, String at, int kind, Style style) {
        int a;
        int b;
        switch (kind) {
            case 0: {
                int w = near(1, style.widest);
                int h = near(1, style.highest);
                int left = near(0, Math.max(0, 12 - Math.max(0, Math.min(12, w))));
                int top = near(0, Math.max(0, 8 - Math.max(0, Math.min(8, h))));
                int worth = near(1, 9);
                check(at + "window(" + left + ", " + top + ", " + w + ", " + h + ", " + worth + ")",
                    () -> x.window(left, top, w, h, worth), () -> m.window(left, top, w, h, worth));
                break;
            }
            case 1: case 2: {
                int column = near(0, 11);
                int strength = near(style.weakest, 30);
                boolean right = some(2) == 0;
                check(at + "rope(" + column + ", " + strength + ", " + right + ")",
                    () -> x.rope(column, strength, right), () -> m.rope(column, strength, right));
                break;
            }
            case 3: {
                int every = near(2, 30);
                int on = near(0, Math.max(1, Math.min(30, every) - 1));
                if (some(4) == 0) {
                    check(at + "feast(" + every + ", " + on + ")", () -> x.feast(every, on), () -> m.feast(every, on));
                }
                break;
            }
            case 4: a = near(-style.mostWind, style.mostWind); checkOne(at + "setWind", a, x::setWind, m::setWind); break;
            case 5: case 6: a = near(1, style.longest); checkOne(at + "pass", a, x::pass, m::pass); break;
            case 7: a = near(0, 5); b = near(0, 11); checkTwo(at + "move", a, b, x::move, m::move); break;
            case 8: a = near(0, 5); checkOne(at + "turn", a, x::turn, m::turn); break;
            case 9: a = near(0, 5); checkOne(at + "wipe", a, x::wipe, m::wipe); break;
            case 10: a = near(0, 11); b = near(0, 7); checkTwo(at + "soot", a, b, x::soot, m::soot); break;
            case 11: a = near(0, 5); b = near(0, 7); checkTwo(at + "about", a, b, x::about, m::about); break;
            case 12: case 13: a = near(0, 5); b = near(0, 5); checkTwo(at + "told", a, b, x::told, m::told); break;
            case 14: a = near(0, 10); checkOne(at + "count", a, x::count, m::count); break;
            case 15: a = near(0, 60); checkOne(at + "isFeast", a, x::isFeast, m::isFeast); break;
            case 16: check(at + "next()", x::next, m::next); break;
            case 17: a = near(1, 40); b = near(0, 2); checkTwo(at + "would", a, b, x::would, m::would); break;
            case 18: a = near(0, 5); checkOne(at + "until", a, x::until, m::until); break;
            case 19: a = near(0, 5); checkOne(at + "advise", a, x::advise, m::advise); break;
            case 20: check(at + "mean()", x::mean, m::mean); break;
            default: check(at + "digest()", x::digest, m::digest); break;
        }
    }

    /** What the runs of a kind draw their numbers from. */
    private static final class Style {
        final int longest;
        final int mostWind;
        final int widest;
        final int highest;
        final int weakest;

        Style(int longest, int mostWind, int widest, int highest, int weakest) {
            this.longest = longest;
            this.mostWind = mostWind;
            this.widest = widest;
            this.highest = highest;
            this.weakest = weakest;
        }
    }

    private interface One {
        Object answer(int a);
    }

    private interface Two {
        Object answer(int a, int b);
    }

    private static void checkOne(String name, int a, One got, One want) {
        check(name + "(" + a + ")", () -> got.answer(a), () -> want.answer(a));
    }

    private static void checkTwo(String name, int a, int b, Two got, Two want) {
        check(name + "(" + a + ", " + b + ")", () -> got.answer(a, b), () -> want.answer(a, b));
    }

    private static void check(String call, Due.Call got, Due.Call want) {
        Due.same(call, Due.answerOf(got), Due.answerOf(want));
    }

    private static final class Pane {
        final int column;
        final int row;
        int soot;

        Pane(int column, int row, int soot) {
            this.column = column;
            this.row = row;
            this.soot = soot;
        }
    }

    private static final class Rope {
        int column;
        int row;
        int strength;
        boolean right;
        int cleaned;
        int moves;

        Rope copy() {
            Rope r = new Rope();
            r.column = column;
            r.row = row;
            r.strength = strength;
            r.right = right;
            r.cleaned = cleaned;
            r.moves = moves;
            return r;
        }
    }

    /** The document read word by word; a look ahead goes on with a deep copy. */
    private static final class Model {
        final List<Pane> panes = new ArrayList<>();
        final List<int[]> windows = new ArrayList<>();
        final List<Rope> ropes = new ArrayList<>();
        final List<int[]> feasts = new ArrayList<>();
        int wind;
        int day;
        int coins;
        int feastDays;

        Model() {
            for (int column = 0; column <= 11; column++) {
                for (int row = 0; row <= 7; row++) {
                    panes.add(new Pane(column, row, 0));
                }
            }
        }

        Model copy() {
            Model m = new Model();
            m.panes.clear();
            for (Pane p : panes) {
                m.panes.add(new Pane(p.column, p.row, p.soot));
            }
            m.windows.addAll(windows);
            for (Rope r : ropes) {
                m.ropes.add(r.copy());
            }
            m.feasts.addAll(feasts);
            m.wind = wind;
            m.day = day;
            m.coins = coins;
            m.feastDays = feastDays;
            return m;
        }

        Pane pane(int column, int row) {
            for (Pane p : panes) {
                if (p.column == column && p.row == row) {
                    return p;
                }
            }
            throw new IndexOutOfBoundsException();
        }

        List<Pane> panesOf(int[] w) {
            List<Pane> of = new ArrayList<>();
            for (Pane p : panes) {
                if (p.column >= w[0] && p.column - w[0] < w[2] && p.row >= w[1] && p.row - w[1] < w[3]) {
                    of.add(p);
                }
            }
            return of;
        }

        int[] windowAt(int window) {
            if (window < 0 || window >= windows.size()) {
                throw new IndexOutOfBoundsException();
            }
            return windows.get(window);
        }

        Rope ropeAt(int rope) {
            if (rope < 0 || rope >= ropes.size()) {
                throw new IndexOutOfBoundsException();
            }
            return ropes.get(rope);
        }

        static int sootOf(List<Pane> of) {
            int sum = 0;
            for (Pane p : of) {
                sum += p.soot;
            }
            return sum;
        }

        int brings(int[] w) {
            int brought = w[4] * panesOf(w).size() - sootOf(panesOf(w));
            return brought < 0 ? 0 : brought;
        }

        boolean hangs(int column) {
            for (Rope r : ropes) {
                if (r.column == column) {
                    return true;
                }
            }
            return false;
        }

        boolean feastOn(int when) {
            for (int[] f : feasts) {
                if (when % f[0] == f[1]) {
                    return true;
                }
            }
            return false;
        }

        static void argument(boolean right) {
            if (!right) {
                throw new IllegalArgumentException();
            }
        }

        static void index(int value, int low, int high) {
            if (value < low || value > high) {
                throw new IndexOutOfBoundsException();
            }
        }

        static void state(boolean right) {
            if (!right) {
                throw new IllegalStateException();
            }
        }

        int window(int x, int y, int w, int h, int worth) {
            argument(w >= 1 && w <= 12 && h >= 1 && h <= 8 && worth >= 1 && worth <= 9);
            for (long column = x; column < (long) x + w; column++) {
                for (long row = y; row < (long) y + h; row++) {
                    if (column < 0 || column > 11 || row < 0 || row > 7) {
                        throw new IndexOutOfBoundsException();
                    }
                }
            }
            state(windows.size() < 6);
            windows.add(new int[] {x, y, w, h, worth});
            return windows.size() - 1;
        }

        int rope(int column, int strength, boolean right) {
            index(column, 0, 11);
            argument(strength >= 1 && strength <= 30);
            state(ropes.size() < 6 && !hangs(column));
            Rope r = new Rope();
            r.column = column;
            r.strength = strength;
            r.right = right;
            ropes.add(r);
            return ropes.size() - 1;
        }

        int feast(int every, int on) {
            argument(every >= 2 && every <= 30 && on >= 0 && on <= every - 1);
            state(feasts.size() < 4);
            feasts.add(new int[] {every, on});
            return feasts.size() - 1;
        }

        int setWind(int newWind) {
            argument(newWind >= -5 && newWind <= 5);
            int old = wind;
            wind = newWind;
            return old;
        }

        int move(int rope, int column) {
            Rope r = ropeAt(rope);
            index(column, 0, 11);
            state(!hangs(column));
            int old = r.column;
            r.column = column;
            r.row = 0;
            r.moves++;
            return old;
        }

        boolean turn(int rope) {
            Rope r = ropeAt(rope);
            r.right = !r.right;
            return r.right;
        }

        int wipe(int window) {
            List<Pane> of = panesOf(windowAt(window));
            int soot = sootOf(of);
            for (Pane p : of) {
                p.soot = 0;
            }
            return soot;
        }

        int pass(int days) {
            argument(days >= 1 && days <= 40);
            int old = coins;
            for (int i = 0; i < days; i++) {
                oneDay();
            }
            return coins - old;
        }

        void oneDay() {
            for (Pane p : panes) {
                int brought = wind >= 0 ? wind - p.column / 2 : -wind - (11 - p.column) / 2;
                if (brought < 0) {
                    brought = 0;
                }
                p.soot += 1 + brought;
                if (p.soot > 20) {
                    p.soot = 20;
                }
            }
            if (feastOn(day)) {
                for (int[] w : windows) {
                    coins += brings(w);
                }
                feastDays++;
            } else {
                for (Rope r : ropes) {
                    work(r);
                }
            }
            day++;
        }

        void work(Rope r) {
            int left = r.strength;
            while (left > 0) {
                Pane p = pane(r.column, r.row);
                while (p.soot > 0 && left > 0) {
                    p.soot--;
                    left--;
                    r.cleaned++;
                }
                if (p.soot > 0 || left == 0) {
                    return;
                }
                if (r.row < 7) {
                    r.row++;
                    left--;
                } else if (left >= 3) {
                    left -= 3;
                    int column = r.column;
                    do {
                        column += r.right ? 1 : -1;
                        column = column > 11 ? 0 : column < 0 ? 11 : column;
                    } while (hangs(column));
                    r.column = column;
                    r.row = 0;
                    r.moves++;
                } else {
                    return;
                }
            }
        }

        int soot(int column, int row) {
            return pane(column, row).soot;
        }

        int about(int window, int what) {
            int[] w = windowAt(window);
            index(what, 0, 7);
            if (what <= 4) {
                return w[what];
            }
            if (what == 5) {
                return sootOf(panesOf(w));
            }
            if (what == 7) {
                return brings(w);
            }
            int most = 0;
            for (Pane p : panesOf(w)) {
                most = p.soot > most ? p.soot : most;
            }
            return most;
        }

        int told(int rope, int what) {
            Rope r = ropeAt(rope);
            index(what, 0, 5);
            return new int[] {r.column, r.row, r.strength, r.right ? 0 : 1, r.cleaned, r.moves}[what];
        }

        int count(int what) {
            index(what, 0, 10);
            int clean = 0;
            for (Pane p : panes) {
                clean += p.soot == 0 ? 1 : 0;
            }
            int cleaned = 0;
            for (Rope r : ropes) {
                cleaned += r.cleaned;
            }
            int bring = 0;
            for (int[] w : windows) {
                bring += brings(w);
            }
            return new int[] {day, windows.size(), ropes.size(), feasts.size(), wind, sootOf(panes), clean, cleaned,
                coins, feastDays, bring}[what];
        }

        boolean isFeast(int days) {
            argument(days >= 0 && days <= 60);
            return feastOn(day + days);
        }

        int next() {
            for (int days = 0; days <= 60; days++) {
                if (isFeast(days)) {
                    return days;
                }
            }
            return -1;
        }

        int would(int days, int what) {
            argument(days >= 1 && days <= 40);
            index(what, 0, 2);
            Model m = copy();
            m.pass(days);
            return m.count(what == 0 ? 5 : what == 1 ? 8 : 7);
        }

        int until(int window) {
            windowAt(window);
            Model m = copy();
            for (int days = 0; days <= 60; days++) {
                List<Pane> of = m.panesOf(m.windowAt(window));
                if (sootOf(of) <= of.size()) {
                    return days;
                }
                m.oneDay();
            }
            return -1;
        }

        int advise(int rope) {
            int own = ropeAt(rope).column;
            state(next() != -1);
            int best = -1;
            int most = -1;
            for (int column = 0; column <= 11; column++) {
                if (column != own && hangs(column)) {
                    continue;
                }
                Model m = copy();
                if (column != own) {
                    m.move(rope, column);
                }
                for (int day = 0; day <= next(); day++) {
                    m.oneDay();
                }
                if (m.coins > most) {
                    most = m.coins;
                    best = column;
                }
            }
            return best;
        }

        double mean() {
            return sootOf(panes) / 96.0;
        }

        long digest() {
            long d = 1823;
            for (int what = 0; what <= 10; what++) {
                d = d * 31 + count(what);
            }
            for (int window = 0; window < windows.size(); window++) {
                for (int what = 0; what <= 7; what++) {
                    d = d * 31 + about(window, what);
                }
            }
            for (int rope = 0; rope < ropes.size(); rope++) {
                for (int what = 0; what <= 5; what++) {
                    d = d * 31 + told(rope, what);
                }
            }
            for (Pane p : panes) {
                d = d * 31 + p.soot;
            }
            return d;
        }
    }
}
