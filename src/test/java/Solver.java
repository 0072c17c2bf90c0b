import java.util.ArrayList;
import java.util.List;

/** A solver, and checks of its calls by their names. */
final class Solver {
    static final Class<?> INDEX = IndexOutOfBoundsException.class;
    static final Class<?> ARGUMENT = IllegalArgumentException.class;
    static final Class<?> STATE = IllegalStateException.class;
    static final Class<?> UNSUPPORTED = UnsupportedOperationException.class;
    static final Class<?> NO_ELEMENT = java.util.NoSuchElementException.class;

    private static final int MOST_CALLS = 512;

    private final Checks checks;
    private final Tableaufloor solver = new Tableaufloor();
    private final List<Call> taken = new ArrayList<>();
    private int calls;

    Solver(Checks checks) {
        this.checks = checks;
    }

    /** Makes a solver with variables that have these bounds, the least one and the greatest. */
    Solver(Checks checks, int... bounds) {
        this(checks);
        for (int i = 0; i + 1 < bounds.length; i += 2) {
            due(i / 2, "addVariable", bounds[i], bounds[i + 1]);
        }
    }

    /**
     * The due answer is a number, a character, a boolean, or the class of an exception. A call
     * that throws must change nothing, be the answers asked for before or not.
     */
    void due(Object due, String name, int... arguments) {
        Object plain = due instanceof Integer number ? (Object) (long) number
                : due instanceof Character character ? (Object) (long) character
                : due instanceof Boolean isSo ? (Object) (isSo ? 1L : 0L) : due;
        Call call = Call.of(name, arguments);
        checks.due(call.toString(), plain, make(call));
        if (due instanceof Class) {
            for (boolean isWarm : new boolean[] {false, true}) {
                checks.due(call + " changes nothing", Portrait.of(taken, null, isWarm),
                        Portrait.of(taken, call, isWarm));
            }
        } else {
            taken.add(call);
        }
    }

    /** Makes a call whose answer the test looks at by itself. */
    Object ask(String name, int... arguments) {
        return make(Call.of(name, arguments));
    }

    private Object make(Call call) {
        calls++;
        if (calls > MOST_CALLS) {
            checks.isTrue("what the call " + calls + " answers is promised", false);
        }
        return call.on(solver);
    }

    private void take(Call call) {
        Object answer = make(call);
        checks.isTrue(call + " is taken, answered " + answer, !(answer instanceof Class));
        taken.add(call);
    }

    void type(String words) {
        for (int i = 0; i < words.length(); i++) {
            take(Call.of("type", words.charAt(i)));
        }
    }

    /** Tells rows and aims. */
    void say(String... texts) {
        for (String words : texts) {
            type(words);
            take(Call.of("tell"));
        }
    }

    /** Checks the fault of a text that is typed in place of the one before. */
    void fault(String words, char kind, int place) {
        take(Call.of("erase"));
        type(words);
        due(kind, "fault");
        due(kind == '-' ? NO_ELEMENT : (Object) place, "faultAt");
        due(words.startsWith("m"), "isAim");
    }

    void line(int row, String due) {
        due(due.length(), "lineLength", row);
        for (int i = 0; i < due.length(); i++) {
            due(due.charAt(i), "lineAt", row, i);
        }
        due(INDEX, "lineAt", row, due.length());
        due(INDEX, "lineAt", row, -1);
    }

    void value(int aim, int top, int bottom) {
        due(top, "valueTop", aim);
        due(bottom, "valueBottom", aim);
    }

    void point(int... parts) {
        for (int i = 0; i + 1 < parts.length; i += 2) {
            due(parts[i], "pointTop", i / 2);
            due(parts[i + 1], "pointBottom", i / 2);
        }
    }

    void worth(int row, int top, int bottom) {
        due(top, "worthTop", row);
        due(bottom, "worthBottom", row);
    }
}
