/** A call of the program: its name, and its arguments, 0 where it has none. */
record Call(String name, int first, int second) {
    static Call of(String name, int... arguments) {
        return new Call(name, arguments.length > 0 ? arguments[0] : 0,
                arguments.length > 1 ? arguments[1] : 0);
    }

    Object on(Tableaufloor solver) {
        return Calls.call(solver, name, first, second);
    }

    @Override
    public String toString() {
        return name + "(" + first + ", " + second + ")";
    }
}
