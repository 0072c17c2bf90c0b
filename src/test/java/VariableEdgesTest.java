/** A test for each sentence that names an edge of variables: promises 1 to 4 and 'Variables'. */
public final class VariableEdgesTest {
    private static final int LOWEST = Integer.MIN_VALUE;
    private static final int HIGHEST = Integer.MAX_VALUE;
    private static final Checks CHECKS = new Checks();

    private VariableEdgesTest() { }

    public static void main(String[] args) {
        newObjectHasNoVariables();
        newObjectHasNoRows();
        newObjectHasNoAims();
        newObjectHasNoText();
        newObjectKeepsNothing();
        newLeastFromMinus50();
        newLeastTo50();
        newGreatestFromTheLeast();
        newGreatestTo100();
        newBoundsFarOut();
        threeVariablesAtMost();
        wrongBoundsAreListedFirst();
        lettersOfVariables();
        leastOfNoVariable();
        leastFromMinus50();
        leastTo50();
        leastToTheGreatest();
        leastOfNoVariableIsListedFirst();
        leastBefore();
        greatestOfNoVariable();
        greatestFromTheLeast();
        greatestTo100();
        greatestOfNoVariableIsListedFirst();
        greatestBefore();
        greatest99IsOne();
        greatest100IsNone();
        CHECKS.end("VariableEdgesTest");
    }

    private static Solver solver(String sentence, int... bounds) {
        CHECKS.about(sentence);
        return new Solver(CHECKS, bounds);
    }

    private static void newObjectHasNoVariables() {
        Solver solver = solver("1: without variables");
        for (String name : new String[] {"setLeast", "setGreatest", "pointTop", "pointBottom",
            "wholeAt"}) {
            solver.due(Solver.INDEX, name, 0, 0);
        }
        solver.due('o', "state");
        solver.due(0, "tight");
        solver.due(0, "addVariable", 0, 0);
    }

    private static void newObjectHasNoRows() {
        Solver solver = solver("1: without rows");
        for (String name : new String[] {"dropRow", "setNumber", "coefficient", "relation",
            "lineLength", "lineAt", "isTight", "worthTop", "worthBottom"}) {
            solver.due(Solver.INDEX, name, 0, 0);
        }
        solver.due(Solver.STATE, "conflict");
        solver.due(Solver.NO_ELEMENT, "tightShare");
    }

    private static void newObjectHasNoAims() {
        Solver solver = solver("1: without aims");
        for (String name : new String[] {"valueTop", "valueBottom", "topByPoints",
            "wholeValue"}) {
            solver.due(Solver.INDEX, name, 0);
        }
        solver.due(Solver.NO_ELEMENT, "open");
        solver.due(true, "isProved");
        solver.due(0, "dropAims");
    }

    private static void newObjectHasNoText() {
        Solver solver = solver("Typed text: at first none");
        solver.due('s', "fault");
        solver.due(0, "faultAt");
        solver.due(false, "isAim");
        solver.due(Solver.UNSUPPORTED, "tell");
        solver.due(0, "erase");
    }

    private static void newObjectKeepsNothing() {
        Solver solver = solver("Snapshots: a new object keeps none");
        for (int i = 0; i < 4; i++) {
            solver.due('-', "kept", i);
            solver.due(Solver.NO_ELEMENT, "brokenBy", i);
        }
    }

    private static void newLeastFromMinus50() {
        Solver solver = solver("2: the least value is from -50");
        solver.due(Solver.ARGUMENT, "addVariable", -51, 0);
        solver.due(0, "addVariable", -50, 0);
        solver.point(-50, 1);
    }

    private static void newLeastTo50() {
        Solver solver = solver("2: the least value is to 50");
        solver.due(Solver.ARGUMENT, "addVariable", 51, 60);
        solver.due(Solver.ARGUMENT, "addVariable", 51, 51);
        solver.due(0, "addVariable", 50, 60);
        solver.point(50, 1);
    }

    private static void newGreatestFromTheLeast() {
        for (int least : new int[] {-50, -1, 0, 1, 50}) {
            Solver solver = solver("2: the greatest value is from the least one, " + least);
            solver.due(Solver.ARGUMENT, "addVariable", least, least - 1);
            solver.due(0, "addVariable", least, least);
            solver.due(2, "tight");
            solver.due(1, "addVariable", least, least + 1);
            solver.due(3, "tight");
        }
    }

    private static void newGreatestTo100() {
        Solver solver = solver("2: the greatest value is to 100");
        solver.due(Solver.ARGUMENT, "addVariable", 0, 101);
        solver.due(0, "addVariable", 0, 100);
        solver.due(1, "addVariable", 0, 99);
        solver.due(100, "setGreatest", 0, 100);
        solver.due(99, "setGreatest", 1, 99);
    }

    private static void newBoundsFarOut() {
        Solver solver = solver("2: bounds that are far out");
        for (int[] wrong : new int[][] {{LOWEST, 0}, {LOWEST, LOWEST}, {HIGHEST, HIGHEST},
            {0, LOWEST}, {0, HIGHEST}, {HIGHEST, LOWEST}, {LOWEST, HIGHEST}}) {
            solver.due(Solver.ARGUMENT, "addVariable", wrong);
        }
    }

    private static void threeVariablesAtMost() {
        Solver solver = solver("2: at most 3 variables, numbered from 0");
        for (int i = 0; i < 3; i++) {
            solver.due(Solver.INDEX, "pointTop", i);
            solver.due(i, "addVariable", i, 100);
            solver.due(i, "pointTop", i);
        }
        solver.due(Solver.STATE, "addVariable", 0, 100);
        solver.due(Solver.INDEX, "pointTop", 3);
    }

    private static void wrongBoundsAreListedFirst() {
        Solver solver = solver("2: of two exceptions the first one", 0, 5, 0, 5, 0, 5);
        solver.due(Solver.ARGUMENT, "addVariable", -51, 0);
        solver.due(Solver.ARGUMENT, "addVariable", 51, 60);
        solver.due(Solver.ARGUMENT, "addVariable", 1, 0);
        solver.due(Solver.ARGUMENT, "addVariable", 0, 101);
        solver.due(Solver.STATE, "addVariable", -50, -50);
    }

    private static void lettersOfVariables() {
        for (int count = 0; count <= 3; count++) {
            for (int letter = 0; letter < 3; letter++) {
                Solver solver = solver("Variables: the letters of " + count);
                for (int i = 0; i < count; i++) {
                    solver.due(i, "addVariable", i + 1, 100);
                }
                String name = "" + (char) ('a' + letter);
                solver.fault(name + "=1", letter < count ? '-' : 'v', 0);
                solver.fault("min" + name, letter < count ? '-' : 'v', 3);
                solver.due(letter < count ? 0 : (Object) Solver.UNSUPPORTED, "tell");
                solver.due(letter < count ? letter + 1 : (Object) Solver.INDEX, "valueTop", 0);
            }
        }
    }

    private static void leastOfNoVariable() {
        for (int count = 0; count <= 3; count++) {
            Solver solver = solver("3: there is no such variable, of " + count);
            for (int i = 0; i < count; i++) {
                solver.due(i, "addVariable", 0, 9);
                solver.due(0, "setLeast", i, 1);
            }
            solver.due(Solver.INDEX, "setLeast", count, 1);
            solver.due(Solver.INDEX, "setLeast", -1, 1);
            solver.due(Solver.INDEX, "setLeast", LOWEST, 1);
            solver.due(Solver.INDEX, "setLeast", HIGHEST, 1);
        }
    }

    private static void leastFromMinus50() {
        Solver solver = solver("3: the least value is from -50", 0, 9);
        solver.due(Solver.ARGUMENT, "setLeast", 0, -51);
        solver.due(Solver.ARGUMENT, "setLeast", 0, LOWEST);
        solver.point(0, 1);
        solver.due(0, "setLeast", 0, -50);
        solver.point(-50, 1);
    }

    private static void leastTo50() {
        for (int greatest : new int[] {60, 99, 100}) {
            Solver solver = solver("3: the least value is to 50", 0, greatest);
            solver.due(Solver.ARGUMENT, "setLeast", 0, 51);
            solver.due(Solver.ARGUMENT, "setLeast", 0, HIGHEST);
            solver.due(0, "setLeast", 0, 50);
            solver.point(50, 1);
        }
    }

    private static void leastToTheGreatest() {
        for (int greatest : new int[] {-49, 0, 9, 49}) {
            Solver solver = solver("3: not greater than the greatest value", -50, greatest);
            solver.due(Solver.ARGUMENT, "setLeast", 0, greatest + 1);
            solver.due(-50, "setLeast", 0, greatest);
            solver.point(greatest, 1);
            solver.due(2, "tight");
        }
    }

    private static void leastOfNoVariableIsListedFirst() {
        Solver solver = solver("3: of two exceptions the first one", 0, 9);
        solver.due(Solver.INDEX, "setLeast", 1, 51);
        solver.due(Solver.INDEX, "setLeast", -1, -51);
        solver.due(Solver.ARGUMENT, "setLeast", 0, 51);
    }

    private static void leastBefore() {
        Solver solver = solver("3: returns the least value before", -7, 9, 4, 100);
        solver.due(-7, "setLeast", 0, -7);
        solver.due(-7, "setLeast", 0, 9);
        solver.due(9, "setLeast", 0, 0);
        solver.due(4, "setLeast", 1, 50);
        solver.due(50, "setLeast", 1, -50);
        solver.point(0, 1, -50, 1);
    }

    private static void greatestOfNoVariable() {
        for (int count = 0; count <= 3; count++) {
            Solver solver = solver("4: there is no such variable, of " + count);
            for (int i = 0; i < count; i++) {
                solver.due(i, "addVariable", 0, 9);
                solver.due(9, "setGreatest", i, 1);
            }
            solver.due(Solver.INDEX, "setGreatest", count, 1);
            solver.due(Solver.INDEX, "setGreatest", -1, 1);
            solver.due(Solver.INDEX, "setGreatest", LOWEST, 1);
            solver.due(Solver.INDEX, "setGreatest", HIGHEST, 1);
        }
    }

    private static void greatestFromTheLeast() {
        for (int least : new int[] {-50, 0, 7, 50}) {
            Solver solver = solver("4: the greatest value is from the least one", least, 80);
            solver.due(Solver.ARGUMENT, "setGreatest", 0, least - 1);
            solver.due(Solver.ARGUMENT, "setGreatest", 0, LOWEST);
            solver.due(1, "tight");
            solver.due(80, "setGreatest", 0, least);
            solver.due(2, "tight");
        }
    }

    private static void greatestTo100() {
        Solver solver = solver("4: the greatest value is to 100", 0, 9);
        solver.say("maxa");
        solver.due(Solver.ARGUMENT, "setGreatest", 0, 101);
        solver.due(Solver.ARGUMENT, "setGreatest", 0, HIGHEST);
        solver.value(0, 9, 1);
        solver.due(9, "setGreatest", 0, 100);
        solver.due('u', "state");
    }

    private static void greatestOfNoVariableIsListedFirst() {
        Solver solver = solver("4: of two exceptions the first one", 0, 9);
        solver.due(Solver.INDEX, "setGreatest", 1, 101);
        solver.due(Solver.INDEX, "setGreatest", -1, -1);
        solver.due(Solver.ARGUMENT, "setGreatest", 0, -1);
    }

    private static void greatestBefore() {
        Solver solver = solver("4: returns the greatest value before, or 100", 0, 9, 0, 100);
        solver.due(9, "setGreatest", 0, 9);
        solver.due(9, "setGreatest", 0, 100);
        solver.due(100, "setGreatest", 0, 0);
        solver.due(0, "setGreatest", 0, 99);
        solver.due(99, "setGreatest", 0, 1);
        solver.due(100, "setGreatest", 1, 100);
        solver.due(100, "setGreatest", 1, 99);
    }

    private static void greatest99IsOne() {
        Solver solver = solver("Variables: a greatest value of 99", 50, 99, 49, 49);
        solver.say("maxa", "a-b<=50");
        solver.value(0, 99, 1);
        solver.due(4, "tight");
        solver.due(50, "setNumber", 0, 51);
        solver.value(0, 99, 1);
        solver.due(3, "tight");
        solver.due('-', "keep", 0);
        solver.due(99, "setGreatest", 0, 98);
        solver.due(-3, "brokenBy", 0);
    }

    private static void greatest100IsNone() {
        Solver solver = solver("Variables: 100 for none", 50, 100, 50, 50);
        solver.say("maxa", "a-b<=50");
        solver.value(0, 100, 1);
        // No bound of 'a' is tight at 100: the row and both bounds of 'b' are.
        solver.due(3, "tight");
        solver.due('-', "keep", 0);
        solver.due(50, "setNumber", 0, 99);
        solver.value(0, 149, 1);
        solver.due(3, "tight");
        solver.due('-', "keep", 1);
        solver.due('f', "kept", 0);
        solver.due('b', "kept", 1);
        solver.due(100, "setGreatest", 0, 99);
        solver.due('x', "kept", 0);
        solver.due(-3, "brokenBy", 1);
        solver.due(0, "dropRow", 0);
        solver.value(0, 99, 1);
        solver.due(99, "setGreatest", 0, 100);
        solver.due(0, "open");
        solver.due('f', "kept", 1);
    }
}
