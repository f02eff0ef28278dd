import java.lang.reflect.InvocationTargetException;
import java.lang.reflect.Method;
import java.lang.reflect.Modifier;
import java.util.Map;
import java.util.TreeMap;

/**
 * What the tests of the project share: compares answers, prints the wrong ones, ends with exit code 1 if there was one.
 * An object is good for 512 calls: so each refused call is tried on an object of its own.
 */
final class Due {
    static final int MIN = Integer.MIN_VALUE;
    static final int MAX = Integer.MAX_VALUE;

    interface Call {
        Object answer();
    }

    /** Makes a new object and uses it, the same way each time. */
    interface Maker {
        GlassRopes made();
    }

    interface Try {
        Object on(GlassRopes x);
    }

    interface TryOf {
        Object on(GlassRopes x, int value);
    }

    private static int wrong = 0;
    private static int asked = 0;
    private static String about = "";

    private Due() {
    }

    /** Runs all static methods without arguments, so that no test can be forgotten; each begins with its sentence. */
    static void runAll(Class<?> tests) {
        Map<String, Method> found = new TreeMap<>();
        for (Method m : tests.getDeclaredMethods()) {
            boolean isTest = m.getReturnType() == void.class && m.getParameterCount() == 0 && !m.isSynthetic();
            if (isTest && Modifier.isStatic(m.getModifiers())) {
                found.put(m.getName(), m);
            }
        }
        for (Method m : found.values()) {
            runOne(m);
        }
        System.out.println(found.size() + " tests");
        end();
    }

    private static void runOne(Method test) {
        int before = asked;
        about = "";
        try {
            test.setAccessible(true);
            test.invoke(null);
        } catch (InvocationTargetException e) {
            tell(test.getName() + " ended with " + e.getCause());
        } catch (IllegalAccessException e) {
            tell(test.getName() + " can't be run");
        }
        if (asked == before || about.isEmpty()) {
            tell(test.getName() + " asks nothing, or tells no sentence");
        }
        about = "";
    }

    /** The document's words that the answers to come hold to. */
    static void words(String place, String words) {
        about = place + ", \"" + words + "\": ";
    }

    static void same(String call, long got, long want) {
        asked++;
        if (got != want) {
            tell(call + " answered " + got + ", due is " + want);
        }
    }

    static void same(String call, boolean got, boolean want) {
        asked++;
        if (got != want) {
            tell(call + " answered " + got + ", due is " + want);
        }
    }

    static void same(String call, double got, double want) {
        asked++;
        if (got != want) {
            tell(call + " answered " + got + ", due is " + want);
        }
    }

    static void same(String call, String got, String want) {
        asked++;
        if (!got.equals(want)) {
            tell(call + " answered " + got + ", due is " + want);
        }
    }

    /**
     * The call must throw just this class (none below it: the machine's own are below), and change nothing: what is told
     * behind it, and what days bring behind it, is as on an object that never got the call.
     */
    static void refuses(Class<? extends RuntimeException> want, String call, Maker maker, Try tried) {
        GlassRopes x = maker.made();
        GlassRopes twin = maker.made();
        same(call, answerOf(() -> tried.on(x)), want.getSimpleName());
        same("the state behind " + call, state(x), state(twin));
        same("the coins of 9 days behind " + call, x.pass(9), twin.pass(9));
        same("digest() 9 days behind " + call, x.digest(), twin.digest());
    }

    /** The same for each value, which stands in the call's text at the sign ?. */
    static void refusesEach(Class<? extends RuntimeException> want, String call, int[] values, Maker maker, TryOf tried) {
        for (int value : values) {
            refuses(want, call.replace("?", "" + value), maker, x -> tried.on(x, value));
        }
    }

    /** For each value, a new object must answer what is due. */
    static void answersEach(String call, int[] values, int want, Maker maker, TryOf tried) {
        for (int value : values) {
            GlassRopes x = maker.made();
            same(call.replace("?", "" + value), answerOf(() -> tried.on(x, value)), "" + want);
        }
    }

    /** The answer as a text (a boolean counts 1 or 0), or the plain name of what is thrown. */
    static String answerOf(Call tried) {
        try {
            Object answer = tried.answer();
            if (answer instanceof Boolean) {
                return (Boolean) answer ? "1" : "0";
            }
            return String.valueOf(answer);
        } catch (RuntimeException e) {
            return e.getClass().getSimpleName();
        }
    }

    /** All that can be told of an object without a look ahead: at most 300 calls. */
    static String state(GlassRopes x) {
        StringBuilder text = new StringBuilder();
        for (int what = 0; what <= 10; what++) {
            text.append(x.count(what)).append(' ');
        }
        int windows = x.count(1);
        for (int window = 0; window < windows; window++) {
            text.append("| ").append(windowState(x, window)).append(' ');
        }
        int ropes = x.count(2);
        for (int rope = 0; rope < ropes; rope++) {
            text.append("/ ").append(ropeState(x, rope)).append(' ');
        }
        text.append("; ");
        for (int days = 0; days <= 60; days++) {
            text.append(x.isFeast(days) ? '+' : '-');
        }
        for (int column = 0; column < 12; column++) {
            text.append(' ').append(columnState(x, column));
        }
        return text.toString();
    }

    /** Column, row, width, height, worth, soot added, most soot, coins. */
    static String windowState(GlassRopes x, int window) {
        StringBuilder text = new StringBuilder();
        for (int what = 0; what <= 7; what++) {
            text.append(what == 0 ? "" : " ").append(x.about(window, what));
        }
        return text.toString();
    }

    /** Column, row, strength, way, soot cleaned off, how often moved. */
    static String ropeState(GlassRopes x, int rope) {
        StringBuilder text = new StringBuilder();
        for (int what = 0; what <= 5; what++) {
            text.append(what == 0 ? "" : " ").append(x.told(rope, what));
        }
        return text.toString();
    }

    /** The soot of a column from the row 0 on. */
    static String columnState(GlassRopes x, int column) {
        StringBuilder text = new StringBuilder();
        for (int row = 0; row < 8; row++) {
            text.append(row == 0 ? "" : ",").append(x.soot(column, row));
        }
        return text.toString();
    }

    /** The soot of a row from the column 0 on. */
    static String rowState(GlassRopes x, int row) {
        StringBuilder text = new StringBuilder();
        for (int column = 0; column < 12; column++) {
            text.append(column == 0 ? "" : ",").append(x.soot(column, row));
        }
        return text.toString();
    }

    /** Each kind of thing as often as it can be: 6 windows, 6 ropes (at the columns 0, 2, .. 10), 4 feasts. */
    static GlassRopes full() {
        GlassRopes x = new GlassRopes();
        for (int number = 0; number < 6; number++) {
            x.window(number, number / 3, 2 + number, 3, 4 + number % 6);
            x.rope(2 * number, 3 + 5 * number, number % 2 == 0);
        }
        for (int number = 0; number < 4; number++) {
            x.feast(5 + number, number);
        }
        return x;
    }

    static void end() {
        System.out.println(wrong == 0 ? asked + " answers are as due" : wrong + " of " + asked + " answers are not as due");
        if (wrong != 0) {
            System.exit(1);
        }
    }

    private static void tell(String text) {
        wrong++;
        if (wrong <= 50) {
            System.out.println(about + text);
        }
    }
}
