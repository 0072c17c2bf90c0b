/** A solver, and checks of its calls by their names. */
final class Solver {
    static final Class<?> INDEX = IndexOutOfBoundsException.class;
    static final Class<?> ARGUMENT = IllegalArgumentException.class;
    static final Class<?> STATE = IllegalStateException.class;
    static final Class<?> UNSUPPORTED = UnsupportedOperationException.class;
    static final Class<?> NO_ELEMENT = java.util.NoSuchElementException.class;

    private final Checks checks;
    private final Tableaufloor solver = new Tableaufloor();

    Solver(Checks checks) {
        this.checks = checks;
    }

    /** The due answer is a number, a character, a boolean, or the class of an exception. */
    void due(Object due, String name, int... arguments) {
        int first = arguments.length > 0 ? arguments[0] : 0;
        int second = arguments.length > 1 ? arguments[1] : 0;
        Object plain = due instanceof Integer number ? (Object) (long) number
                : due instanceof Character character ? (Object) (long) character
                : due instanceof Boolean isSo ? (Object) (isSo ? 1L : 0L) : due;
        checks.due(plain, Calls.call(solver, name, first, second));
    }

    void type(String words) {
        for (int i = 0; i < words.length(); i++) {
            solver.type(words.charAt(i));
        }
    }

    /** Tells rows and aims. */
    void say(String... texts) {
        for (String words : texts) {
            type(words);
            solver.tell();
        }
    }

    void fault(String words, char kind, int place) {
        solver.erase();
        type(words);
        due(kind, "fault");
        due(kind == '-' ? NO_ELEMENT : (Object) place, "faultAt");
        due(words.startsWith("m"), "isAim");
        solver.erase();
    }

    void line(int row, String due) {
        due(due.length(), "lineLength", row);
        for (int i = 0; i < due.length(); i++) {
            due(due.charAt(i), "lineAt", row, i);
        }
        due(INDEX, "lineAt", row, due.length());
        due(INDEX, "lineAt", row, -1);
    }

    void value(int aim, int top, int bottom) {
        due(top, "valueTop", aim);
        due(bottom, "valueBottom", aim);
    }

    void point(int... parts) {
        for (int i = 0; i + 1 < parts.length; i += 2) {
            due(parts[i], "pointTop", i / 2);
            due(parts[i + 1], "pointBottom", i / 2);
        }
    }

    void worth(int row, int top, int bottom) {
        due(top, "worthTop", row);
        due(bottom, "worthBottom", row);
    }
}
