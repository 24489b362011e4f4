import java.lang.reflect.InvocationTargetException;
import java.lang.reflect.Method;
import java.lang.reflect.Modifier;
import java.util.HashMap;
import java.util.Map;

/** A run of calls on one new object; each call is told as a text, so that a wrong answer is told with it. */
final class Run {
    static final int NONE = SailingDirections.NONE, BAD = SailingDirections.BAD;
    static final int STATE = SailingDirections.STATE, FULL = SailingDirections.FULL;
    static final int LEAST = Integer.MIN_VALUE, MOST = Integer.MAX_VALUE;

    private static final int CALLS_MOST = 512;
    private static final Map<String, Method> FACE = new HashMap<>();

    static {
        for (Method m : SailingDirections.class.getDeclaredMethods()) {
            if (Modifier.isPublic(m.getModifiers())) {
                FACE.put(m.getName(), m);
            }
        }
    }

    private final SailingDirections x = new SailingDirections();
    private int calls = 0;

    private Run() {
    }

    /** On an object that has been told nothing. */
    static Run fresh() {
        return new Run();
    }

    /** On an object that has read this sheet. */
    static Run of(String sheet) {
        return fresh().told(sheet);
    }

    Run told(String sheet) {
        tell(sheet);
        if (ask("sheet()") < 1) {
            Due.fail(Edge.label() + "this text should be a sheet: " + sheet);
        }
        return this;
    }

    Run tell(String text) {
        for (int i = 0; i < text.length(); i++) {
            call("feed", text.charAt(i));
        }
        return this;
    }

    long ask(String call) {
        int open = call.indexOf('(');
        String inside = call.substring(open + 1, call.length() - 1).replace(" ", "");
        String[] words = inside.isEmpty() ? new String[0] : inside.split(",");
        Object[] values = new Object[words.length];
        for (int i = 0; i < words.length; i++) {
            values[i] = Integer.parseInt(words[i]);
        }
        return call(call.substring(0, open), values);
    }

    private long call(String name, Object... values) {
        calls++;
        if (calls > CALLS_MOST) {
            throw new IllegalStateException("what an object answers behind its 512th call is free");
        }
        for (int i = 0; i < values.length; i++) {
            values[i] = values[i] instanceof Character ? (int) (Character) values[i] : values[i];
        }
        try {
            return ((Number) FACE.get(name).invoke(x, values)).longValue();
        } catch (InvocationTargetException | IllegalAccessException e) {
            throw new IllegalStateException(name + " threw " + e.getCause());
        }
    }

    Run due(String call, long want) {
        Due.due(Edge.label() + call, ask(call), want);
        return this;
    }

    /** The same answer of each of these calls. */
    Run dueAll(long want, String... all) {
        for (String call : all) {
            due(call, want);
        }
        return this;
    }

    /** The text is told and read as a sheet. */
    Run dueSheet(String text, long want) {
        tell(text);
        Due.due(Edge.label() + "sheet() of " + text, ask("sheet()"), want);
        return this;
    }

    /** The text is told and read as a course's name. */
    Run dueCourse(String text, long want) {
        tell(text);
        Due.due(Edge.label() + "course() of " + text, ask("course()"), want);
        return this;
    }

    /** All that sail() answers, from what 0 on. */
    Run dueSail(int t, long... want) {
        for (int what = 0; what < want.length; what++) {
            due("sail(" + t + ", " + what + ")", want[what]);
        }
        return this;
    }

    /** All causes, "kind:number" each, and none behind them. */
    Run dueWhy(int t, String want) {
        StringBuilder got = new StringBuilder();
        int i = 0;
        for (; i < 9 && ask("why(" + t + ", " + i + ", 0)") != NONE; i++) {
            got.append(i > 0 ? " " : "").append(ask("why(" + t + ", " + i + ", 0)"));
            got.append(':').append(ask("why(" + t + ", " + i + ", 1)"));
        }
        Due.due(Edge.label() + "why from " + t, got.toString(), want);
        return due("why(" + t + ", " + i + ", 1)", NONE);
    }

    /** All signs of the log, and none behind them. */
    Run dueLog(int t, String want) {
        for (int i = 0; i < want.length(); i++) {
            due("sign(" + t + ", " + i + ")", want.charAt(i));
        }
        return due("sign(" + t + ", " + want.length() + ")", NONE);
    }

    /** All cells of a row, each by its own call: "thing(2, *)" asks for thing(2, 0), thing(2, 1) and so on. */
    Run dueRow(String call, long... want) {
        for (int i = 0; i < want.length; i++) {
            due(call.replace("*", Integer.toString(i)), want[i]);
        }
        return this;
    }
}
