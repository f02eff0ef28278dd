/** What the tests of the project share: compares answers, prints the wrong ones, ends with exit code 1 if there was one. */
final class Due {
    interface Call {
        Object answer();
    }

    private static int wrong = 0;
    private static int asked = 0;

    private Due() {
    }

    static void same(String call, long got, long want) {
        asked++;
        if (got != want) {
            tell(call + " answered " + got + ", due is " + want);
        }
    }

    static void same(String call, boolean got, boolean want) {
        asked++;
        if (got != want) {
            tell(call + " answered " + got + ", due is " + want);
        }
    }

    static void same(String call, double got, double want) {
        asked++;
        if (got != want) {
            tell(call + " answered " + got + ", due is " + want);
        }
    }

    static void same(String call, String got, String want) {
        asked++;
        if (!got.equals(want)) {
            tell(call + " answered " + got + ", due is " + want);
        }
    }

    /** The call must throw just this class (none below it: the machine's own are below), and change nothing. */
    static void refused(GlassRopes x, String call, Class<? extends RuntimeException> want, Call tried) {
        String before = state(x);
        same(call, answerOf(tried), want.getSimpleName());
        same("the state behind " + call, state(x), before);
    }

    static void refusesArgument(GlassRopes x, String call, Call tried) {
        refused(x, call, IllegalArgumentException.class, tried);
    }

    static void refusesIndex(GlassRopes x, String call, Call tried) {
        refused(x, call, IndexOutOfBoundsException.class, tried);
    }

    static void refusesState(GlassRopes x, String call, Call tried) {
        refused(x, call, IllegalStateException.class, tried);
    }

    /** The answer as a text (a boolean counts 1 or 0), or the plain name of what is thrown. */
    static String answerOf(Call tried) {
        try {
            Object answer = tried.answer();
            if (answer instanceof Boolean) {
                return (Boolean) answer ? "1" : "0";
            }
            return String.valueOf(answer);
        } catch (RuntimeException e) {
            return e.getClass().getSimpleName();
        }
    }

    /** All that can be told of an object without a look ahead. */
    static String state(GlassRopes x) {
        StringBuilder text = new StringBuilder();
        for (int what = 0; what <= 10; what++) {
            text.append(x.count(what)).append(' ');
        }
        for (int window = 0; window < x.count(1); window++) {
            text.append("| ");
            for (int what = 0; what <= 7; what++) {
                text.append(x.about(window, what)).append(' ');
            }
        }
        for (int rope = 0; rope < x.count(2); rope++) {
            text.append("/ ").append(ropeState(x, rope)).append(' ');
        }
        text.append("; ");
        for (int days = 0; days <= 60; days++) {
            text.append(x.isFeast(days) ? '+' : '-');
        }
        for (int column = 0; column < 12; column++) {
            text.append(' ').append(columnState(x, column));
        }
        return text.toString();
    }

    /** Column, row, strength, way, soot cleaned off, how often moved. */
    static String ropeState(GlassRopes x, int rope) {
        StringBuilder text = new StringBuilder();
        for (int what = 0; what <= 5; what++) {
            text.append(what == 0 ? "" : " ").append(x.told(rope, what));
        }
        return text.toString();
    }

    /** The soot of a column from the row 0 on. */
    static String columnState(GlassRopes x, int column) {
        StringBuilder text = new StringBuilder();
        for (int row = 0; row < 8; row++) {
            text.append(row == 0 ? "" : ",").append(x.soot(column, row));
        }
        return text.toString();
    }

    static void end() {
        System.out.println(wrong == 0 ? asked + " answers are as due" : wrong + " of " + asked + " answers are not as due");
        if (wrong != 0) {
            System.exit(1);
        }
    }

    private static void tell(String text) {
        wrong++;
        if (wrong <= 50) {
            System.out.println(text);
        }
    }
}
