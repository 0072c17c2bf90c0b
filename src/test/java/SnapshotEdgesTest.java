/** A test for each sentence that names an edge of snapshots: promises 33 to 36, 'Snapshots'. */
public final class SnapshotEdgesTest {
    private static final int LOWEST = Integer.MIN_VALUE;
    private static final int HIGHEST = Integer.MAX_VALUE;
    private static final Checks CHECKS = new Checks();

    private SnapshotEdgesTest() { }

    public static void main(String[] args) {
        snapshots0To3();
        keptThereWasNone();
        keptBefore();
        keepInPlaceOfAnother();
        keepOnlyInO();
        keepOrder();
        keepsThePointAsItWas();
        keptDoesNotFit();
        keptAtTheEdges();
        keptWithTooFewValues();
        keptWithoutValues();
        keptFitsAndIsNotTheBest();
        keptIsTheBest();
        brokenByOfNoSnapshot();
        brokenByIfNoneIsKept();
        brokenByIfItFits();
        brokenByWithTooFewValues();
        brokenByOrder();
        brokenByVariablesFirst();
        brokenByTheFirstVariable();
        brokenByTheFirstRow();
        brokenByTheLastRow();
        shareOnlyInO();
        shareOfNoRows();
        shareIfAllAreDropped();
        shares();
        object512Calls();
        CHECKS.end("SnapshotEdgesTest");
    }

    private static Solver solver(String sentence, int... bounds) {
        CHECKS.about(sentence);
        return new Solver(CHECKS, bounds);
    }

    private static void snapshots0To3() {
        Solver solver = solver("Snapshots: there are the snapshots 0 to 3", 0, 9);
        for (int snapshot : new int[] {4, 5, -1, LOWEST, HIGHEST}) {
            solver.due(Solver.ARGUMENT, "keep", snapshot);
            solver.due(Solver.ARGUMENT, "kept", snapshot);
            solver.due(Solver.ARGUMENT, "brokenBy", snapshot);
        }
        for (int i = 0; i < 4; i++) {
            solver.due('-', "kept", i);
            solver.due('-', "keep", i);
            solver.due('b', "kept", i);
        }
    }

    private static void keptThereWasNone() {
        Solver solver = solver("33 and 34: '-' if it kept none", 0, 9);
        solver.due('-', "kept", 2);
        solver.due('-', "keep", 1);
        solver.due('-', "kept", 0);
        solver.due('-', "kept", 2);
        solver.due('-', "keep", 2);
        solver.due('b', "keep", 2);
    }

    private static void keptBefore() {
        Solver solver = solver("33: how the point that it kept before is now", 0, 9);
        solver.due('-', "keep", 0);
        solver.due('b', "keep", 0);
        solver.say("maxa");
        solver.due('f', "keep", 0);
        solver.due('b', "keep", 0);
        solver.due(9, "setGreatest", 0, 8);
        solver.due('x', "keep", 0);
        solver.due('b', "keep", 0);
        solver.due(1, "addVariable", 0, 9);
        solver.due('x', "keep", 0);
        solver.due('b', "keep", 0);
    }

    private static void keepInPlaceOfAnother() {
        Solver solver = solver("33: in place of another one", 0, 9);
        solver.due('-', "keep", 0);
        solver.due('-', "keep", 1);
        solver.say("maxa");
        solver.due('f', "keep", 1);
        solver.due('f', "kept", 0);
        solver.due('b', "kept", 1);
        solver.due(1, "dropAims");
        solver.due('b', "kept", 0);
        solver.due('f', "kept", 1);
    }

    private static void keepOnlyInO() {
        Solver solver = solver("33: the state is not 'o'", 0, 100);
        solver.due('-', "keep", 0);
        solver.say("maxa");
        solver.due('u', "state");
        for (int i = 0; i < 4; i++) {
            solver.due(Solver.NO_ELEMENT, "keep", i);
            solver.due(i == 0 ? 'f' : '-', "kept", i);
        }
        solver.say("a<=-1");
        solver.due('i', "state");
        for (int i = 0; i < 4; i++) {
            solver.due(Solver.NO_ELEMENT, "keep", i);
            solver.due(i == 0 ? 'x' : '-', "kept", i);
        }
        solver.due(1, "dropAims");
        solver.due(0, "dropRow", 0);
        solver.due('b', "kept", 0);
    }

    private static void keepOrder() {
        Solver solver = solver("33: of two exceptions the first one", 0, 100);
        solver.say("maxa");
        solver.due(Solver.ARGUMENT, "keep", 4);
        solver.due(Solver.ARGUMENT, "keep", -1);
        solver.due(Solver.NO_ELEMENT, "keep", 3);
        solver.say("a<=-1");
        solver.due(Solver.ARGUMENT, "keep", 4);
        solver.due(Solver.NO_ELEMENT, "keep", 0);
    }

    private static void keepsThePointAsItWas() {
        Solver solver = solver("Snapshots: a kept point stays as it was", 0, 100, 0, 100);
        solver.say("3a+7b<=10", "max5a+6b");
        solver.due('-', "keep", 0);
        solver.point(10, 3, 0, 1);
        solver.due(10, "setNumber", 0, 11);
        solver.point(11, 3, 0, 1);
        solver.due('f', "kept", 0);
        solver.due('-', "keep", 1);
        solver.due(11, "setNumber", 0, 10);
        solver.due('b', "kept", 0);
        solver.due(0, "brokenBy", 1);
        solver.due(0, "dropRow", 0);
        solver.due('u', "state");
        solver.due('f', "kept", 0);
        solver.due('f', "kept", 1);
        solver.say("3a=10");
        solver.due(1, "dropAims");
        solver.due('b', "kept", 0);
        solver.due(1, "brokenBy", 1);
    }

    private static void keptDoesNotFit() {
        Solver solver = solver("34: 'x', if it does not fit", 5, 9);
        solver.say("a>=0", "a<=9", "0a=0");
        solver.due('-', "keep", 0);
        solver.due(5, "setLeast", 0, 6);
        solver.due('x', "kept", 0);
        solver.due(6, "setLeast", 0, 4);
        solver.due('f', "kept", 0);
        solver.due(9, "setGreatest", 0, 4);
        solver.due('x', "kept", 0);
        solver.due(4, "setGreatest", 0, 100);
        int[][] wrong = {{0, 0, 6}, {1, 9, 4}, {2, 0, 1}};
        for (int[] change : wrong) {
            solver.due(change[1], "setNumber", change[0], change[2]);
            solver.due('x', "kept", 0);
            solver.due(change[2], "setNumber", change[0], change[1]);
            solver.due('f', "kept", 0);
        }
    }

    private static void keptAtTheEdges() {
        Solver solver = solver("34: a point at a bound or at a number fits", 5, 9, 0, 9);
        solver.say("a>=0", "a<=9", "0a=0");
        solver.due('-', "keep", 0);
        solver.due(9, "setGreatest", 0, 5);
        solver.due('b', "kept", 0);
        solver.due(5, "setLeast", 0, -50);
        solver.due('f', "kept", 0);
        solver.due(0, "setNumber", 0, 5);
        solver.due(9, "setNumber", 1, 5);
        solver.due('b', "kept", 0);
        solver.due(5, "setNumber", 1, 4);
        solver.due('i', "state");
        solver.due('x', "kept", 0);
    }

    private static void keptWithTooFewValues() {
        Solver solver = solver("34: 'x', if it has not as many values as there are variables");
        for (int i = 0; i < 3; i++) {
            solver.due('-', "keep", i);
            solver.due('b', "kept", i);
            solver.due(i, "addVariable", 0, 9);
            for (int j = 0; j <= i; j++) {
                solver.due('x', "kept", j);
            }
        }
        solver.due('-', "keep", 3);
        solver.due('b', "kept", 3);
        solver.due(Solver.STATE, "addVariable", 0, 9);
        solver.due('b', "kept", 3);
    }

    private static void keptWithoutValues() {
        Solver solver = solver("34: the point of no variables is without values");
        solver.due('-', "keep", 0);
        solver.due('b', "keep", 0);
        solver.due('b', "kept", 0);
        solver.due(Solver.NO_ELEMENT, "brokenBy", 0);
        solver.due(0, "addVariable", 0, 0);
        solver.due('x', "kept", 0);
        solver.due(Solver.UNSUPPORTED, "brokenBy", 0);
        solver.due('x', "keep", 0);
        solver.due('b', "kept", 0);
    }

    private static void keptFitsAndIsNotTheBest() {
        Solver solver = solver("34: 'f' if it fits and is not the best point", 0, 9, 0, 9, 0, 9);
        solver.due('-', "keep", 0);
        String[] aims = {"maxa", "maxb", "maxc"};
        for (String aim : aims) {
            solver.say(aim);
            solver.due('f', "kept", 0);
            solver.due(1, "dropAims");
            solver.due('b', "kept", 0);
        }
        solver.due(9, "setGreatest", 2, 100);
        solver.say("maxc");
        solver.due('u', "state");
        solver.due('f', "kept", 0);
    }

    private static void keptIsTheBest() {
        Solver solver = solver("34: 'b' if it is the best point", 0, 9, 0, 9);
        solver.say("4a+6b=9", "mina");
        solver.due('-', "keep", 0);
        solver.due('b', "kept", 0);
        solver.due(1, "dropAims");
        solver.due(0, "dropRow", 0);
        solver.due('f', "kept", 0);
        // The same point is found again in another way.
        solver.say("2b=3");
        solver.due('b', "kept", 0);
        solver.due(3, "setNumber", 1, 4);
        solver.due('x', "kept", 0);
    }

    private static void brokenByOfNoSnapshot() {
        Solver solver = solver("35: there is no such snapshot", 0, 9);
        solver.due('-', "keep", 3);
        solver.due(0, "setLeast", 0, 1);
        for (int snapshot : new int[] {4, -1, LOWEST, HIGHEST}) {
            solver.due(Solver.ARGUMENT, "brokenBy", snapshot);
        }
        solver.due(-3, "brokenBy", 3);
    }

    private static void brokenByIfNoneIsKept() {
        Solver solver = solver("35: the snapshot keeps none");
        for (int i = 0; i < 4; i++) {
            solver.due(Solver.NO_ELEMENT, "brokenBy", i);
        }
        solver.due(0, "addVariable", 0, 9);
        for (int i = 0; i < 4; i++) {
            solver.due(Solver.NO_ELEMENT, "brokenBy", i);
        }
    }

    private static void brokenByIfItFits() {
        Solver solver = solver("35: its point is not 'x'", 0, 100);
        solver.due('-', "keep", 0);
        solver.due('b', "kept", 0);
        solver.due(Solver.NO_ELEMENT, "brokenBy", 0);
        solver.say("maxa");
        solver.due('f', "kept", 0);
        solver.due(Solver.NO_ELEMENT, "brokenBy", 0);
        solver.say("a<=9");
        solver.due(Solver.NO_ELEMENT, "brokenBy", 0);
        solver.due(9, "setNumber", 0, -1);
        solver.due(0, "brokenBy", 0);
    }

    private static void brokenByWithTooFewValues() {
        Solver solver = solver("35: it has not as many values as there are variables");
        solver.due('-', "keep", 0);
        solver.due(0, "addVariable", 0, 9);
        solver.due(Solver.UNSUPPORTED, "brokenBy", 0);
        solver.due('-', "keep", 1);
        // The bounds of 'a' break it, too, but it has too few values.
        solver.due(1, "addVariable", 0, 9);
        solver.due(0, "setLeast", 0, 1);
        solver.due(Solver.UNSUPPORTED, "brokenBy", 0);
        solver.due(Solver.UNSUPPORTED, "brokenBy", 1);
        solver.due('-', "keep", 2);
        solver.due(1, "setLeast", 0, 2);
        solver.due(-3, "brokenBy", 2);
        solver.due(2, "addVariable", 0, 9);
        solver.due(Solver.UNSUPPORTED, "brokenBy", 2);
    }

    private static void brokenByOrder() {
        Solver solver = solver("35: of several exceptions the first one", 0, 9);
        solver.due(Solver.ARGUMENT, "brokenBy", 4);
        solver.due('-', "keep", 0);
        solver.due(1, "addVariable", 0, 9);
        solver.due(Solver.ARGUMENT, "brokenBy", -1);
        solver.due(Solver.NO_ELEMENT, "brokenBy", 1);
        solver.due(Solver.UNSUPPORTED, "brokenBy", 0);
    }

    private static void brokenByVariablesFirst() {
        Solver solver = solver("Snapshots: by a variable, or else by a row", 0, 9, 0, 9, 0, 9);
        solver.say("a<=9");
        solver.due('-', "keep", 0);
        solver.due(9, "setNumber", 0, -1);
        solver.due(0, "brokenBy", 0);
        for (int i = 2; i >= 0; i--) {
            solver.due(0, "setLeast", i, 1);
            solver.due(i - 3, "brokenBy", 0);
        }
    }

    private static void brokenByTheFirstVariable() {
        Solver solver = solver("Snapshots: by the first variable whose bounds it breaks",
                5, 9, 5, 9, 5, 9);
        solver.due('-', "keep", 0);
        for (int i = 2; i >= 0; i--) {
            solver.due(5, "setLeast", i, 0);
            solver.due(9, "setGreatest", i, 5);
            solver.due(i == 2 ? (Object) Solver.NO_ELEMENT : i - 2, "brokenBy", 0);
            solver.due(5, "setGreatest", i, 4);
            solver.due(i - 3, "brokenBy", 0);
        }
        for (int i = 0; i < 3; i++) {
            solver.due(4, "setGreatest", i, 5);
            solver.due(i == 2 ? (Object) Solver.NO_ELEMENT : i - 2, "brokenBy", 0);
        }
    }

    private static void brokenByTheFirstRow() {
        Solver solver = solver("Snapshots: by the first row that does not hold", 5, 9);
        solver.say("a<=5", "a>=5", "a=5", "2a<=11");
        solver.due('-', "keep", 0);
        solver.due(11, "setNumber", 3, 9);
        solver.due(3, "brokenBy", 0);
        solver.due(5, "setNumber", 2, 6);
        solver.due(2, "brokenBy", 0);
        solver.due(5, "setNumber", 1, 6);
        solver.due(1, "brokenBy", 0);
        solver.due(5, "setNumber", 0, 4);
        solver.due(0, "brokenBy", 0);
        solver.due(3, "dropRow", 0);
        solver.due(1, "brokenBy", 0);
        solver.due(2, "dropRow", 1);
        solver.due(2, "brokenBy", 0);
        solver.due(6, "setNumber", 2, 4);
        solver.due(2, "brokenBy", 0);
        solver.due(1, "dropRow", 2);
        solver.due(3, "brokenBy", 0);
        solver.due(0, "dropRow", 3);
        solver.due(Solver.NO_ELEMENT, "brokenBy", 0);
    }

    private static void brokenByTheLastRow() {
        Solver solver = solver("35: the number of the row, to 11", 0, 9);
        solver.due('-', "keep", 0);
        for (int i = 0; i < 12; i++) {
            solver.say("a>=1");
            solver.due(i, "brokenBy", 0);
            solver.due(0, "dropRow", i);
        }
        solver.due(Solver.NO_ELEMENT, "brokenBy", 0);
    }

    private static void shareOnlyInO() {
        Solver solver = solver("36: the state is not 'o'", 0, 100);
        solver.say("a>=0");
        solver.due(1f, "tightShare");
        solver.say("maxa");
        solver.due('u', "state");
        solver.due(Solver.NO_ELEMENT, "tightShare");
        solver.say("a<=-1");
        solver.due('i', "state");
        solver.due(Solver.NO_ELEMENT, "tightShare");
    }

    private static void shareOfNoRows() {
        Solver solver = solver("36: no rows were told");
        solver.due(Solver.NO_ELEMENT, "tightShare");
        solver.due(0, "addVariable", 0, 9);
        solver.due(Solver.NO_ELEMENT, "tightShare");
    }

    private static void shareIfAllAreDropped() {
        Solver solver = solver("36: all rows are dropped", 0, 9);
        solver.say("a>=0", "a<=9");
        solver.due(0.5f, "tightShare");
        solver.due(1, "dropRow", 1);
        solver.due(1f, "tightShare");
        solver.due(0, "dropRow", 0);
        solver.due('o', "state");
        solver.due(Solver.NO_ELEMENT, "tightShare");
        solver.say("a<=9");
        solver.due(0f, "tightShare");
    }

    private static void shares() {
        CHECKS.about("36: both converted to float");
        for (int rows = 1; rows <= 6; rows++) {
            for (int tight = 0; tight <= rows; tight++) {
                Solver solver = new Solver(CHECKS, 0, 9);
                for (int i = 0; i < rows; i++) {
                    solver.say(i < tight ? "a>=0" : "a<=9");
                }
                solver.due((float) tight / (float) rows, "tightShare");
            }
        }
    }

    private static void object512Calls() {
        CHECKS.about("What it is: an object is used for 512 calls");
        Tableaufloor solver = new Tableaufloor();
        solver.addVariable(0, 9);
        for (char character : "maxa".toCharArray()) {
            solver.type(character);
        }
        solver.tell();
        for (int call = 7; call < 512; call += 2) {
            CHECKS.due(9, solver.setGreatest(0, 9));
            CHECKS.due(9L, solver.valueTop(0));
        }
    }
}
