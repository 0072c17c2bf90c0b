/** Makes a call of the program by its name; answers as Model does. */
final class Calls {
    static final String[] NAMES = {
        "addVariable", "setLeast", "setGreatest", "type", "erase", "fault", "faultAt", "isAim",
        "tell", "dropRow", "setNumber", "dropAims", "coefficient", "relation", "lineLength",
        "lineAt", "state", "open", "valueTop", "valueBottom", "topByPoints", "pointTop",
        "pointBottom", "isTight", "tight", "isProved", "worthTop", "worthBottom", "conflict",
        "wholeAt", "wholeValue", "keep", "kept", "brokenBy", "tightShare"};

    private Calls() { }

    static Object call(Tableaufloor solver, String name, int first, int second) {
        try {
            return answer(solver, name, first, second);
        } catch (RuntimeException e) {
            // The class itself, so that an ArrayIndexOutOfBoundsException is not as due.
            return e.getClass();
        }
    }

    private static Object answer(Tableaufloor solver, String name, int first, int second) {
        switch (name) {
            case "addVariable": return (long) solver.addVariable(first, second);
            case "setLeast": return (long) solver.setLeast(first, second);
            case "setGreatest": return (long) solver.setGreatest(first, second);
            case "type": return (long) solver.type((char) first);
            case "erase": return (long) solver.erase();
            case "fault": return (long) solver.fault();
            case "faultAt": return (long) solver.faultAt();
            case "isAim": return solver.isAim() ? 1L : 0L;
            case "tell": return (long) solver.tell();
            case "dropRow": return (long) solver.dropRow(first);
            case "setNumber": return (long) solver.setNumber(first, second);
            case "dropAims": return (long) solver.dropAims();
            case "coefficient": return (long) solver.coefficient(first, second);
            case "relation": return (long) solver.relation(first);
            case "lineLength": return (long) solver.lineLength(first);
            case "lineAt": return (long) solver.lineAt(first, second);
            case "state": return (long) solver.state();
            case "open": return (long) solver.open();
            default: return answerOfPoint(solver, name, first);
        }
    }

    private static Object answerOfPoint(Tableaufloor solver, String name, int first) {
        switch (name) {
            case "valueTop": return solver.valueTop(first);
            case "valueBottom": return solver.valueBottom(first);
            case "topByPoints": return solver.topByPoints(first);
            case "pointTop": return solver.pointTop(first);
            case "pointBottom": return solver.pointBottom(first);
            case "isTight": return solver.isTight(first) ? 1L : 0L;
            case "tight": return (long) solver.tight();
            case "isProved": return solver.isProved() ? 1L : 0L;
            case "worthTop": return solver.worthTop(first);
            case "worthBottom": return solver.worthBottom(first);
            case "conflict": return (long) solver.conflict();
            case "wholeAt": return (long) solver.wholeAt(first);
            case "wholeValue": return (long) solver.wholeValue(first);
            case "keep": return (long) solver.keep(first);
            case "kept": return (long) solver.kept(first);
            case "brokenBy": return (long) solver.brokenBy(first);
            case "tightShare": return solver.tightShare();
            default: throw new IllegalArgumentException(name);
        }
    }
}
