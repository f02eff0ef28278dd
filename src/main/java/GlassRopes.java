/** Cleaners of cathedral glass: panes, wind, windows, ropes and feasts, day by day. */
public final class GlassRopes {
    private static final int COLUMNS = 12;
    private static final int ROWS = 8;
    private static final int PANES = COLUMNS * ROWS;
    private static final int MOST_SOOT = 20;
    private static final int MOST_WIND = 5;
    private static final int MOST_WINDOWS = 6;
    private static final int MOST_WORTH = 9;
    private static final int MOST_ROPES = 6;
    private static final int MOST_STRENGTH = 30;
    private static final int STRENGTH_FOR_A_MOVE = 3;
    private static final int MOST_FEASTS = 4;
    private static final int LEAST_EVERY = 2;
    private static final int MOST_EVERY = 30;
    private static final int MOST_DAYS = 40;
    private static final int FARTHEST_DAY = 60;
    private static final int ABOUT_NUMBERS = 8;
    private static final int TOLD_NUMBERS = 6;
    private static final int COUNT_NUMBERS = 11;
    private static final int WOULD_NUMBERS = 3;
    private static final long DIGEST_START = 1823;
    private static final long DIGEST_FACTOR = 31;

    private final Windows windows = new Windows();
    private final Feasts feasts = new Feasts();
    private final Course now = new Course();
    // Made once and used by every look at what would be, so that no such call makes objects.
    private final Course ahead = new Course();

    public GlassRopes() {
    }

    // ---- the cathedral

    public int window(int x, int y, int w, int h, int worth)
            throws IllegalArgumentException, IndexOutOfBoundsException, IllegalStateException {
        if (w < 1 || w > COLUMNS || h < 1 || h > ROWS || worth < 1 || worth > MOST_WORTH) {
            throw new IllegalArgumentException("w, h or worth is out of its range");
        }
        if (x < 0 || x > COLUMNS - w || y < 0 || y > ROWS - h) {
            throw new IndexOutOfBoundsException("some pane of the window is not there");
        }
        if (windows.size >= MOST_WINDOWS) {
            throw new IllegalStateException("there are as many windows as can be");
        }
        return windows.put(x, y, w, h, worth);
    }

    public int rope(int column, int strength, boolean right)
            throws IndexOutOfBoundsException, IllegalArgumentException, IllegalStateException {
        if (!isColumn(column)) {
            throw new IndexOutOfBoundsException("no such column");
        }
        if (strength < 1 || strength > MOST_STRENGTH) {
            throw new IllegalArgumentException("strength is out of its range");
        }
        if (now.ropes.size >= MOST_ROPES || now.ropes.hangAt(column)) {
            throw new IllegalStateException("no rope can be hung there");
        }
        return now.ropes.put(column, strength, right);
    }

    public int feast(int every, int on) throws IllegalArgumentException, IllegalStateException {
        if (every < LEAST_EVERY || every > MOST_EVERY || on < 0 || on >= every) {
            throw new IllegalArgumentException("every or on is out of its range");
        }
        if (feasts.size >= MOST_FEASTS) {
            throw new IllegalStateException("there are as many feasts as can be");
        }
        return feasts.put(every, on);
    }

    public int setWind(int wind) throws IllegalArgumentException {
        if (wind < -MOST_WIND || wind > MOST_WIND) {
            throw new IllegalArgumentException("wind is out of its range");
        }
        int before = now.wind;
        now.wind = wind;
        return before;
    }

    // ---- by hand

    public int move(int rope, int column) throws IndexOutOfBoundsException, IllegalStateException {
        if (!isRope(rope) || !isColumn(column)) {
            throw new IndexOutOfBoundsException("no such rope or column");
        }
        if (now.ropes.hangAt(column)) {
            throw new IllegalStateException("a rope hangs there");
        }
        int before = now.ropes.column[rope];
        now.ropes.rehang(rope, column);
        return before;
    }

    public boolean turn(int rope) throws IndexOutOfBoundsException {
        if (!isRope(rope)) {
            throw new IndexOutOfBoundsException("no such rope");
        }
        now.ropes.toRight[rope] = !now.ropes.toRight[rope];
        return now.ropes.toRight[rope];
    }

    public int wipe(int window) throws IndexOutOfBoundsException {
        if (!isWindow(window)) {
            throw new IndexOutOfBoundsException("no such window");
        }
        return windows.wipeOff(window, now.glass);
    }

    // ---- days

    public int pass(int days) throws IllegalArgumentException {
        if (days < 1 || days > MOST_DAYS) {
            throw new IllegalArgumentException("days is out of its range");
        }
        int before = now.coins;
        now.goOn(days, windows, feasts);
        return now.coins - before;
    }

    // ---- what there is

    public int soot(int column, int row) throws IndexOutOfBoundsException {
        if (!isColumn(column) || row < 0 || row >= ROWS) {
            throw new IndexOutOfBoundsException("no such pane");
        }
        return now.glass.at(column, row);
    }

    public int about(int window, int what) throws IndexOutOfBoundsException {
        if (!isWindow(window) || what < 0 || what >= ABOUT_NUMBERS) {
            throw new IndexOutOfBoundsException("no such window or number");
        }
        return windows.number(window, what, now.glass);
    }

    public int told(int rope, int what) throws IndexOutOfBoundsException {
        if (!isRope(rope) || what < 0 || what >= TOLD_NUMBERS) {
            throw new IndexOutOfBoundsException("no such rope or number");
        }
        return now.ropes.number(rope, what);
    }

    public int count(int what) throws IndexOutOfBoundsException {
        if (what < 0 || what >= COUNT_NUMBERS) {
            throw new IndexOutOfBoundsException("no such number");
        }
        return number(what);
    }

    public boolean isFeast(int days) throws IllegalArgumentException {
        if (days < 0 || days > FARTHEST_DAY) {
            throw new IllegalArgumentException("days is out of its range");
        }
        return feasts.areOn(now.day + days);
    }

    public int next() {
        return feasts.daysUntil(now.day);
    }

    // ---- what would be

    public int would(int days, int what) throws IllegalArgumentException, IndexOutOfBoundsException {
        if (days < 1 || days > MOST_DAYS) {
            throw new IllegalArgumentException("days is out of its range");
        }
        if (what < 0 || what >= WOULD_NUMBERS) {
            throw new IndexOutOfBoundsException("no such number");
        }
        ahead.copyFrom(now);
        ahead.goOn(days, windows, feasts);
        switch (what) {
            case 0: return ahead.glass.total();
            case 1: return ahead.coins;
            default: return ahead.ropes.allCleaned();
        }
    }

    public int until(int window) throws IndexOutOfBoundsException {
        if (!isWindow(window)) {
            throw new IndexOutOfBoundsException("no such window");
        }
        ahead.copyFrom(now);
        for (int days = 0; days <= FARTHEST_DAY; days++) {
            if (windows.isClean(window, ahead.glass)) {
                return days;
            }
            ahead.goOneDay(windows, feasts);
        }
        return -1;
    }

    public int advise(int rope) throws IndexOutOfBoundsException, IllegalStateException {
        if (!isRope(rope)) {
            throw new IndexOutOfBoundsException("no such rope");
        }
        int wait = feasts.daysUntil(now.day);
        if (wait < 0) {
            throw new IllegalStateException("no feast day comes soon enough");
        }
        int own = now.ropes.column[rope];
        int best = own;
        int most = coinsBehind(wait + 1, rope, own);
        for (int column = 0; column < COLUMNS; column++) {
            if (now.ropes.hangAt(column)) {
                continue;
            }
            int coins = coinsBehind(wait + 1, rope, column);
            if (coins > most || coins == most && column < best) {
                most = coins;
                best = column;
            }
        }
        return best;
    }

    public double mean() {
        return (double) now.glass.total() / PANES;
    }

    public long digest() {
        long d = DIGEST_START;
        for (int what = 0; what < COUNT_NUMBERS; what++) {
            d = d * DIGEST_FACTOR + number(what);
        }
        for (int window = 0; window < windows.size; window++) {
            for (int what = 0; what < ABOUT_NUMBERS; what++) {
                d = d * DIGEST_FACTOR + windows.number(window, what, now.glass);
            }
        }
        for (int rope = 0; rope < now.ropes.size; rope++) {
            for (int what = 0; what < TOLD_NUMBERS; what++) {
                d = d * DIGEST_FACTOR + now.ropes.number(rope, what);
            }
        }
        for (int column = 0; column < COLUMNS; column++) {
            for (int row = 0; row < ROWS; row++) {
                d = d * DIGEST_FACTOR + now.glass.at(column, row);
            }
        }
        return d;
    }

    // ---- for the calls above

    private static boolean isColumn(int column) {
        return column >= 0 && column < COLUMNS;
    }

    private boolean isWindow(int window) {
        return window >= 0 && window < windows.size;
    }

    private boolean isRope(int rope) {
        return rope >= 0 && rope < now.ropes.size;
    }

    private int number(int what) {
        switch (what) {
            case 0: return now.day;
            case 1: return windows.size;
            case 2: return now.ropes.size;
            case 3: return feasts.size;
            case 4: return now.wind;
            case 5: return now.glass.total();
            case 6: return now.glass.cleanPanes();
            case 7: return now.ropes.allCleaned();
            case 8: return now.coins;
            case 9: return now.feastDays;
            default: return windows.allBring(now.glass);
        }
    }

    private int coinsBehind(int days, int rope, int column) {
        ahead.copyFrom(now);
        // At its own column the rope goes on as it hangs: its cleaner keeps his row.
        if (column != now.ropes.column[rope]) {
            ahead.ropes.rehang(rope, column);
        }
        // Not by goOn: calls shall not stand open deeper than they must.
        for (int gone = 0; gone < days; gone++) {
            ahead.goOneDay(windows, feasts);
        }
        return ahead.coins;
    }

    /** The soot of all panes, column by column. */
    private static final class Glass {
        private final int[] soot = new int[PANES];

        void copyFrom(Glass other) {
            System.arraycopy(other.soot, 0, soot, 0, PANES);
        }

        int at(int column, int row) {
            return soot[column * ROWS + row];
        }

        void gather(int wind) {
            for (int column = 0; column < COLUMNS; column++) {
                int more = 1 + broughtTo(column, wind);
                for (int row = 0; row < ROWS; row++) {
                    int pane = column * ROWS + row;
                    soot[pane] = Math.min(MOST_SOOT, soot[pane] + more);
                }
            }
        }

        private static int broughtTo(int column, int wind) {
            int brought = wind >= 0 ? wind - column / 2 : -wind - (COLUMNS - 1 - column) / 2;
            return Math.max(0, brought);
        }

        /** Takes off what is there, but no more than most, and tells how much that was. */
        int takeOff(int column, int row, int most) {
            int pane = column * ROWS + row;
            int off = Math.min(most, soot[pane]);
            soot[pane] -= off;
            return off;
        }

        int total() {
            int sum = 0;
            for (int pane = 0; pane < PANES; pane++) {
                sum += soot[pane];
            }
            return sum;
        }

        int cleanPanes() {
            int clean = 0;
            for (int pane = 0; pane < PANES; pane++) {
                if (soot[pane] == 0) {
                    clean++;
                }
            }
            return clean;
        }
    }

    /** The windows, by numbers below size; no day changes them. */
    private static final class Windows {
        private int size = 0;
        private final int[] x = new int[MOST_WINDOWS];
        private final int[] y = new int[MOST_WINDOWS];
        private final int[] width = new int[MOST_WINDOWS];
        private final int[] height = new int[MOST_WINDOWS];
        private final int[] worth = new int[MOST_WINDOWS];

        /** Asks for room and for a window that the glass has. */
        int put(int left, int top, int w, int h, int value) {
            x[size] = left;
            y[size] = top;
            width[size] = w;
            height[size] = h;
            worth[size] = value;
            size++;
            return size - 1;
        }

        int number(int window, int what, Glass glass) {
            switch (what) {
                case 0: return x[window];
                case 1: return y[window];
                case 2: return width[window];
                case 3: return height[window];
                case 4: return worth[window];
                case 5: return added(window, glass);
                case 6: return darkest(window, glass);
                default: return brings(window, glass);
            }
        }

        private int panes(int window) {
            return width[window] * height[window];
        }

        private int added(int window, Glass glass) {
            int sum = 0;
            for (int column = x[window]; column < x[window] + width[window]; column++) {
                for (int row = y[window]; row < y[window] + height[window]; row++) {
                    sum += glass.at(column, row);
                }
            }
            return sum;
        }

        private int darkest(int window, Glass glass) {
            int most = 0;
            for (int column = x[window]; column < x[window] + width[window]; column++) {
                for (int row = y[window]; row < y[window] + height[window]; row++) {
                    most = Math.max(most, glass.at(column, row));
                }
            }
            return most;
        }

        private int brings(int window, Glass glass) {
            return Math.max(0, worth[window] * panes(window) - added(window, glass));
        }

        int allBring(Glass glass) {
            int coins = 0;
            for (int window = 0; window < size; window++) {
                coins += brings(window, glass);
            }
            return coins;
        }

        boolean isClean(int window, Glass glass) {
            return added(window, glass) <= panes(window);
        }

        int wipeOff(int window, Glass glass) {
            int off = 0;
            for (int column = x[window]; column < x[window] + width[window]; column++) {
                for (int row = y[window]; row < y[window] + height[window]; row++) {
                    off += glass.takeOff(column, row, MOST_SOOT);
                }
            }
            return off;
        }
    }

    /** The ropes and their cleaners, by numbers below size. */
    private static final class Ropes {
        private int size = 0;
        private final int[] column = new int[MOST_ROPES];
        private final int[] row = new int[MOST_ROPES];
        private final int[] strength = new int[MOST_ROPES];
        private final boolean[] toRight = new boolean[MOST_ROPES];
        private final int[] cleaned = new int[MOST_ROPES];
        private final int[] moved = new int[MOST_ROPES];

        void copyFrom(Ropes other) {
            size = other.size;
            for (int rope = 0; rope < MOST_ROPES; rope++) {
                column[rope] = other.column[rope];
                row[rope] = other.row[rope];
                strength[rope] = other.strength[rope];
                toRight[rope] = other.toRight[rope];
                cleaned[rope] = other.cleaned[rope];
                moved[rope] = other.moved[rope];
            }
        }

        /** Asks for room and for a column at which no rope hangs. */
        int put(int place, int power, boolean right) {
            column[size] = place;
            strength[size] = power;
            toRight[size] = right;
            size++;
            return size - 1;
        }

        int number(int rope, int what) {
            switch (what) {
                case 0: return column[rope];
                case 1: return row[rope];
                case 2: return strength[rope];
                case 3: return toRight[rope] ? 0 : 1;
                case 4: return cleaned[rope];
                default: return moved[rope];
            }
        }

        int allCleaned() {
            int sum = 0;
            for (int rope = 0; rope < size; rope++) {
                sum += cleaned[rope];
            }
            return sum;
        }

        boolean hangAt(int place) {
            for (int rope = 0; rope < size; rope++) {
                if (column[rope] == place) {
                    return true;
                }
            }
            return false;
        }

        void rehang(int rope, int place) {
            column[rope] = place;
            row[rope] = 0;
            moved[rope]++;
        }

        void work(Glass glass) {
            for (int rope = 0; rope < size; rope++) {
                workOnOne(rope, glass);
            }
        }

        private void workOnOne(int rope, Glass glass) {
            int left = strength[rope];
            // Each step that does not end the work takes at least 1 of what is left.
            for (int step = 0; step < MOST_STRENGTH; step++) {
                int off = glass.takeOff(column[rope], row[rope], left);
                cleaned[rope] += off;
                left -= off;
                // While something is left, the pane is clean: takeOff takes all that it may.
                if (left == 0) {
                    return;
                }
                if (row[rope] < ROWS - 1) {
                    row[rope]++;
                    left--;
                } else if (left >= STRENGTH_FOR_A_MOVE) {
                    rehang(rope, nextFreeColumn(rope));
                    left -= STRENGTH_FOR_A_MOVE;
                } else {
                    return;
                }
            }
        }

        private int nextFreeColumn(int rope) {
            int way = toRight[rope] ? 1 : COLUMNS - 1;
            int place = column[rope];
            for (int step = 1; step < COLUMNS; step++) {
                place = (place + way) % COLUMNS;
                if (!hangAt(place)) {
                    return place;
                }
            }
            // Never so: there are fewer ropes than columns.
            return column[rope];
        }
    }

    /** The feasts, by numbers below size. */
    private static final class Feasts {
        private int size = 0;
        private final int[] every = new int[MOST_FEASTS];
        private final int[] on = new int[MOST_FEASTS];

        /** Asks for room. */
        int put(int divisor, int remainder) {
            every[size] = divisor;
            on[size] = remainder;
            size++;
            return size - 1;
        }

        boolean areOn(int day) {
            for (int feast = 0; feast < size; feast++) {
                int divisor = every[feast];
                if (divisor >= LEAST_EVERY && day % divisor == on[feast]) {
                    return true;
                }
            }
            return false;
        }

        int daysUntil(int day) {
            for (int days = 0; days <= FARTHEST_DAY; days++) {
                if (areOn(day + days)) {
                    return days;
                }
            }
            return -1;
        }
    }

    /** All that days change, and the wind, which a look ahead needs as well. */
    private static final class Course {
        private final Glass glass = new Glass();
        private final Ropes ropes = new Ropes();
        private int wind = 0;
        private int day = 0;
        private int coins = 0;
        private int feastDays = 0;

        void copyFrom(Course other) {
            glass.copyFrom(other.glass);
            ropes.copyFrom(other.ropes);
            wind = other.wind;
            day = other.day;
            coins = other.coins;
            feastDays = other.feastDays;
        }

        void goOn(int days, Windows windows, Feasts feasts) {
            for (int gone = 0; gone < days; gone++) {
                goOneDay(windows, feasts);
            }
        }

        void goOneDay(Windows windows, Feasts feasts) {
            glass.gather(wind);
            if (feasts.areOn(day)) {
                coins += windows.allBring(glass);
                feastDays++;
            } else {
                ropes.work(glass);
            }
            day++;
        }
    }
}
