/**
 * A test for each sentence that names an edge of the best point: promises 18 to 27, 'Points' and
 * 'States'.
 */
public final class BestEdgesTest {
    private static final int LOWEST = Integer.MIN_VALUE;
    private static final int HIGHEST = Integer.MAX_VALUE;
    private static final String[] OF_AIMS = {"valueTop", "valueBottom", "topByPoints"};
    private static final String[] OF_VARIABLES = {"pointTop", "pointBottom"};
    private static final Checks CHECKS = new Checks();

    private BestEdgesTest() { }

    public static void main(String[] args) {
        onePointWithoutValues();
        noPointFits();
        boundsAreTaken();
        droppedRowsNeedNotHold();
        aimsWithoutABest();
        openOnlyOnTheBestPoints();
        noMoreAimsAreLookedAt();
        noPointFitsAheadOfOpen();
        bestWithoutAims();
        leastOfAThenBThenC();
        openOnlyInU();
        openOfEachAim();
        valueOfNoAim();
        valueIfNoPointFits();
        valueOfTheOpenAimAndBehind();
        valueOrder();
        valuesInLowestTerms();
        byPointsOnlyInO();
        byPointsOrder();
        byPointsOfBoundsAlone();
        byPointsThatFitOnly();
        byPointsOfParallelRows();
        pointOfNoVariable();
        pointOnlyInO();
        pointOrder();
        pointInLowestTerms();
        tightOfNoRow();
        tightOfADroppedRow();
        tightRowOnlyInO();
        tightRowOrder();
        tightRowIsJustItsNumber();
        tightWithNothingThere();
        tightBoundsTheSame();
        tightCountsNoDroppedRows();
        tightWithAllThatCanBe();
        tightOnlyInO();
        provedWithoutAims();
        provedInEachState();
        CHECKS.end("BestEdgesTest");
    }

    private static Solver solver(String sentence, int... bounds) {
        CHECKS.about(sentence);
        return new Solver(CHECKS, bounds);
    }

    private static void due(Solver solver, Object due, String[] names, int argument) {
        for (String name : names) {
            solver.due(due, name, argument);
        }
    }

    private static void onePointWithoutValues() {
        Solver solver = solver("States: with no variables, there is one point");
        solver.due('o', "state");
        solver.due(Solver.NO_ELEMENT, "open");
        solver.due(0, "tight");
        solver.due(true, "isProved");
        solver.due(Solver.STATE, "conflict");
        solver.due('-', "keep", 0);
        solver.due('b', "kept", 0);
        due(solver, Solver.INDEX, OF_VARIABLES, 0);
        due(solver, Solver.INDEX, OF_AIMS, 0);
    }

    private static void noPointFits() {
        Solver solver = solver("States: 'i' if no point fits", -3, 7);
        solver.say("a<=-3", "a>=-3");
        solver.due('o', "state");
        solver.due(-3, "setNumber", 0, -4);
        solver.due('i', "state");
        solver.due(-4, "setNumber", 0, 7);
        solver.due(-3, "setNumber", 1, 7);
        solver.due('o', "state");
        solver.due(7, "setNumber", 1, 8);
        solver.due('i', "state");
        solver.due(1, "dropRow", 0);
        solver.due(0, "dropRow", 1);
        solver.due('o', "state");
        solver.say("0a<=0", "0a>=0", "0a=0");
        solver.due('o', "state");
        int[][] wrong = {{2, -1}, {3, 1}, {4, 1}, {4, -1}};
        for (int[] change : wrong) {
            solver.due(0, "setNumber", change[0], change[1]);
            solver.due('i', "state");
            solver.due(change[1], "setNumber", change[0], 0);
            solver.due('o', "state");
        }
    }

    private static void boundsAreTaken() {
        Solver solver = solver("Points: all values are within their bounds", -50, -50, 50, 99);
        solver.say("maxa", "maxb");
        solver.value(0, -50, 1);
        solver.value(1, 99, 1);
        solver.due(2, "dropAims");
        solver.say("mina", "minb");
        solver.value(0, -50, 1);
        solver.value(1, 50, 1);
        solver.say("b<=50");
        solver.due('o', "state");
        solver.due(50, "setNumber", 0, 49);
        solver.due('i', "state");
    }

    private static void droppedRowsNeedNotHold() {
        Solver solver = solver("Points: all rows hold that are not dropped", 0, 9);
        solver.say("a<=-1", "a>=10", "0a=1");
        solver.due('i', "state");
        solver.due(2, "dropRow", 0);
        solver.due('i', "state");
        solver.due(1, "dropRow", 1);
        solver.due('i', "state");
        solver.due(0, "dropRow", 2);
        solver.due('o', "state");
        solver.point(0, 1);
    }

    private static void aimsWithoutABest() {
        Solver solver = solver("States: 'u' if the value can be as great as one likes", 0, 100);
        solver.say("maxa");
        solver.due('u', "state");
        solver.due(1, "dropAims");
        solver.say("min-a");
        solver.due('u', "state");
        solver.due(1, "dropAims");
        for (String aim : new String[] {"mina", "max-a", "max0a", "mina-a"}) {
            solver.say(aim);
            solver.due('o', "state");
            solver.value(0, 0, 1);
            solver.due(1, "dropAims");
        }
        solver.say("max9a");
        solver.due(100, "setGreatest", 0, 99);
        solver.due('o', "state");
        solver.value(0, 891, 1);
    }

    private static void openOnlyOnTheBestPoints() {
        Solver solver = solver("States: on the points that are best for all aims ahead of it",
                0, 100, 0, 100);
        solver.say("max-a", "maxa", "mina-b+b");
        solver.due('o', "state");
        solver.value(1, 0, 1);
        solver.due(3, "dropAims");
        solver.say("a-b=0", "mina", "maxb");
        solver.due('o', "state");
        solver.value(1, 0, 1);
        solver.due(2, "dropAims");
        solver.say("maxa-b", "maxb");
        solver.due(1, "open");
        solver.value(0, 0, 1);
    }

    private static void noMoreAimsAreLookedAt() {
        Solver solver = solver("States: no more aims are looked at", 0, 5, 0, 100);
        solver.say("maxb", "maxa", "mina");
        solver.due(0, "open");
        for (int aim = 0; aim < 3; aim++) {
            solver.due(Solver.NO_ELEMENT, "valueTop", aim);
            solver.due(Solver.NO_ELEMENT, "valueBottom", aim);
        }
    }

    private static void noPointFitsAheadOfOpen() {
        Solver solver = solver("States: 'i' ahead of 'u'", 0, 100, 0, 5);
        solver.say("maxa", "b>=6");
        solver.due('i', "state");
        solver.due(Solver.NO_ELEMENT, "open");
        solver.due(6, "setNumber", 0, 5);
        solver.due('u', "state");
        solver.due(0, "open");
    }

    private static void bestWithoutAims() {
        Solver solver = solver("Points: without aims, all points that fit are best", -4, 9, 2, 100);
        solver.due('o', "state");
        solver.point(-4, 1, 2, 1);
        solver.say("a+b>=3");
        solver.point(-4, 1, 7, 1);
        solver.due(1f, "tightShare");
    }

    private static void leastOfAThenBThenC() {
        Solver solver = solver("Points: the least value of 'a', then of 'b', then of 'c'",
                -1, 9, -1, 9, -1, 9);
        solver.say("a+b+c=4");
        solver.point(-1, 1, -1, 1, 6, 1);
        solver.due(9, "setGreatest", 2, 5);
        solver.point(-1, 1, 0, 1, 5, 1);
        solver.due(9, "setGreatest", 1, -1);
        solver.point(0, 1, -1, 1, 5, 1);
        solver.say("max0a", "max0b", "max0c");
        solver.point(0, 1, -1, 1, 5, 1);
        // Of points with the same value of 'a', and of 'b', there are many.
        solver = new Solver(CHECKS, 0, 9, 0, 9, 0, 9);
        solver.say("a-c>=7", "maxa");
        solver.point(9, 1, 0, 1, 0, 1);
        solver = new Solver(CHECKS, 0, 9, 0, 9, 0, 9);
        solver.say("b-2c>=3", "mina-2b");
        solver.point(0, 1, 9, 1, 0, 1);
        solver = new Solver(CHECKS, 0, 9, 0, 9, 0, 9);
        solver.say("a-b>=7", "maxa");
        solver.point(9, 1, 0, 1, 0, 1);
    }

    private static void openOnlyInU() {
        Solver solver = solver("19: throws if the state is not 'u'", 0, 9);
        solver.due(Solver.NO_ELEMENT, "open");
        solver.say("maxa");
        solver.due('o', "state");
        solver.due(Solver.NO_ELEMENT, "open");
        solver.say("a>=10");
        solver.due('i', "state");
        solver.due(Solver.NO_ELEMENT, "open");
        solver.due(9, "setGreatest", 0, 100);
        solver.due(0, "open");
    }

    private static void openOfEachAim() {
        Solver solver = solver("19: returns its number, 0 to 2", 0, 100, 0, 100, 0, 100);
        solver.say("maxa", "maxb", "maxc");
        for (int i = 0; i < 3; i++) {
            solver.due(i, "open");
            solver.due(100, "setGreatest", i, 99);
        }
        solver.due(Solver.NO_ELEMENT, "open");
        solver.due('o', "state");
    }

    private static void valueOfNoAim() {
        Solver solver = solver("20 to 22: there is no such aim", 0, 9);
        for (int count = 0; count <= 3; count++) {
            for (int aim : new int[] {count, count + 1, -1, LOWEST, HIGHEST}) {
                due(solver, Solver.INDEX, OF_AIMS, aim);
            }
            if (count < 3) {
                solver.say("maxa");
                solver.value(count, 9, 1);
                solver.due(9, "topByPoints", count);
            }
        }
    }

    private static void valueIfNoPointFits() {
        Solver solver = solver("20 to 22: no point fits", 0, 9);
        solver.say("maxa", "min0a", "a>=9");
        solver.value(0, 9, 1);
        solver.due(9, "setNumber", 0, 10);
        due(solver, Solver.NO_ELEMENT, OF_AIMS, 0);
        due(solver, Solver.NO_ELEMENT, OF_AIMS, 1);
        solver.due(10, "setNumber", 0, 9);
        solver.value(0, 9, 1);
        solver.value(1, 0, 1);
    }

    private static void valueOfTheOpenAimAndBehind() {
        CHECKS.about("20 and 21: it is the open aim or one behind it");
        for (int open = 0; open < 3; open++) {
            Solver solver = new Solver(CHECKS, 0, 9, 0, 100);
            for (int i = 0; i < 3; i++) {
                solver.say(i == open ? "maxb" : "maxa");
            }
            solver.due(open, "open");
            for (int i = 0; i < 3; i++) {
                solver.due(i < open ? 9 : (Object) Solver.NO_ELEMENT, "valueTop", i);
                solver.due(i < open ? 1 : (Object) Solver.NO_ELEMENT, "valueBottom", i);
            }
            due(solver, Solver.INDEX, OF_AIMS, 3);
        }
    }

    private static void valueOrder() {
        Solver solver = solver("20 to 22: of two exceptions the first one", 0, 100);
        solver.say("maxa");
        due(solver, Solver.INDEX, OF_AIMS, 1);
        due(solver, Solver.INDEX, OF_AIMS, -1);
        due(solver, Solver.NO_ELEMENT, OF_AIMS, 0);
        solver.say("a<=-1");
        due(solver, Solver.INDEX, OF_AIMS, 1);
        due(solver, Solver.INDEX, OF_AIMS, -1);
        due(solver, Solver.NO_ELEMENT, OF_AIMS, 0);
        solver.due(1, "dropAims");
        due(solver, Solver.INDEX, OF_AIMS, 0);
    }

    private static void valuesInLowestTerms() {
        Solver solver = solver("Fractions: in lowest terms, the denominator greater than 0",
                -50, 100);
        String[] rows = {"4a=6", "4a=-6", "9a=0", "9a=99", "-6a=4", "-6a=-4", "8a=1", "-8a=96"};
        int[][] due = {{3, 2}, {-3, 2}, {0, 1}, {11, 1}, {-2, 3}, {2, 3}, {1, 8}, {-12, 1}};
        solver.say("maxa", "min-a", "max6a");
        for (int i = 0; i < rows.length; i++) {
            solver.say(rows[i]);
            solver.point(due[i]);
            solver.value(0, due[i][0], due[i][1]);
            solver.value(1, -due[i][0], due[i][1]);
            solver.due(due[i][0], "topByPoints", 0);
            solver.due(-due[i][0], "topByPoints", 1);
            solver.due(0, "dropRow", i);
        }
        solver.say("4a=6");
        solver.value(2, 9, 1);
        solver.due(9, "topByPoints", 2);
    }

    private static void byPointsOnlyInO() {
        Solver solver = solver("22: the state is not 'o'", 0, 9, 0, 100);
        solver.say("maxa", "maxb");
        // Also for the aim ahead of the open one, which has a best value.
        solver.value(0, 9, 1);
        solver.due(Solver.NO_ELEMENT, "topByPoints", 0);
        solver.due(Solver.NO_ELEMENT, "topByPoints", 1);
        solver.due(100, "setGreatest", 1, 99);
        solver.due(9, "topByPoints", 0);
        solver.due(99, "topByPoints", 1);
        solver.say("a>=10");
        solver.due(Solver.NO_ELEMENT, "topByPoints", 0);
    }

    private static void byPointsOrder() {
        Solver solver = solver("22: of two exceptions the first one", 0, 9, 0, 100);
        solver.say("maxa", "maxb");
        solver.due(Solver.INDEX, "topByPoints", 2);
        solver.due(Solver.INDEX, "topByPoints", -1);
        solver.due(Solver.NO_ELEMENT, "topByPoints", 1);
    }

    private static void value(Solver solver, int aim, int top, int bottom) {
        solver.value(aim, top, bottom);
        solver.due(top, "topByPoints", aim);
    }

    private static void byPointsOfBoundsAlone() {
        Solver solver = solver("22: points at which bounds alone are tight", -50, -50, -3, 8, 50, 99);
        solver.say("max9a-2b+c", "min2b-c", "maxb");
        value(solver, 0, -345, 1);
        value(solver, 1, -105, 1);
        value(solver, 2, -3, 1);
        solver.due(99, "setGreatest", 2, 100);
        solver.due(Solver.NO_ELEMENT, "topByPoints", 0);
        solver.due(3, "dropAims");
        solver.say("minc");
        value(solver, 0, 50, 1);
    }

    private static void byPointsThatFitOnly() {
        Solver solver = solver("22: points that do not fit are not the best", 0, 100, 0, 100, 0, 100);
        solver.say("a+2b+3c<=12", "3a+b+c<=8", "a+b+4c<=9", "5a-c<=7");
        int[][] due = {{37, 21}, {6, 1}, {9, 4}, {32, 5}, {32, 5}};
        String[] aims = {"maxa", "maxb", "maxc", "maxa+b", "maxa+b+c"};
        for (int i = 0; i < aims.length; i++) {
            solver.say(aims[i]);
            value(solver, 0, due[i][0], due[i][1]);
            solver.due(1, "dropAims");
        }
    }

    private static void byPointsOfParallelRows() {
        Solver solver = solver("22: rows that meet nowhere or everywhere", 0, 9, 0, 9);
        solver.say("a+b<=7", "2a+2b<=14", "a+b>=2", "a-b=1", "b-a=-1", "0a=0", "max3a+b");
        value(solver, 0, 15, 1);
        solver.due(7, "setNumber", 0, 1);
        solver.due(Solver.NO_ELEMENT, "topByPoints", 0);
        solver.due(1, "setNumber", 0, 2);
        value(solver, 0, 5, 1);
    }

    private static void pointOfNoVariable() {
        Solver solver = solver("23 and 24: there is no such variable");
        for (int count = 0; count <= 3; count++) {
            for (int variable : new int[] {count, count + 1, -1, LOWEST, HIGHEST}) {
                due(solver, Solver.INDEX, OF_VARIABLES, variable);
            }
            if (count < 3) {
                solver.due(count, "addVariable", count + 4, 100);
                solver.due(count + 4, "pointTop", count);
                solver.due(1, "pointBottom", count);
            }
        }
    }

    private static void pointOnlyInO() {
        Solver solver = solver("23 and 24: the state is not 'o'", 0, 9, 0, 100);
        solver.point(0, 1, 0, 1);
        solver.say("maxa", "maxb");
        due(solver, Solver.NO_ELEMENT, OF_VARIABLES, 0);
        due(solver, Solver.NO_ELEMENT, OF_VARIABLES, 1);
        solver.say("b<=7");
        solver.point(9, 1, 7, 1);
        solver.due(7, "setNumber", 0, -1);
        due(solver, Solver.NO_ELEMENT, OF_VARIABLES, 0);
        due(solver, Solver.NO_ELEMENT, OF_VARIABLES, 1);
    }

    private static void pointOrder() {
        Solver solver = solver("23 and 24: of two exceptions the first one", 0, 100);
        solver.say("maxa");
        due(solver, Solver.INDEX, OF_VARIABLES, 1);
        due(solver, Solver.INDEX, OF_VARIABLES, -1);
        due(solver, Solver.NO_ELEMENT, OF_VARIABLES, 0);
        solver.say("a<=-1");
        due(solver, Solver.INDEX, OF_VARIABLES, 1);
        due(solver, Solver.NO_ELEMENT, OF_VARIABLES, 0);
    }

    private static void pointInLowestTerms() {
        Solver solver = solver("Fractions: each value of a point by itself", -50, 100, -50, 100,
                -50, 100);
        solver.say("4a=6", "6b=-3", "9c=-99");
        solver.point(3, 2, -1, 2, -11, 1);
        solver.say("a+b+c<=-10");
        solver.point(3, 2, -1, 2, -11, 1);
        solver.due(-99, "setNumber", 2, 0);
        solver.due('i', "state");
        solver.due(3, "dropRow", 3);
        solver.due(2, "dropRow", 2);
        solver.point(3, 2, -1, 2, -50, 1);
    }

    private static void tightOfNoRow() {
        Solver solver = solver("25: there is no such row", 0, 9);
        for (int count = 0; count < 3; count++) {
            for (int row : new int[] {count, count + 1, -1, LOWEST, HIGHEST}) {
                solver.due(Solver.INDEX, "isTight", row);
            }
            solver.say("a>=0");
            solver.due(true, "isTight", count);
        }
    }

    private static void tightOfADroppedRow() {
        Solver solver = solver("25: the row was dropped", 0, 9);
        solver.say("a>=0", "a>=0");
        solver.due(1, "dropRow", 0);
        solver.due(Solver.STATE, "isTight", 0);
        solver.due(true, "isTight", 1);
        solver.due(0, "dropRow", 1);
        solver.due(Solver.STATE, "isTight", 1);
    }

    private static void tightRowOnlyInO() {
        Solver solver = solver("25: the state is not 'o'", 0, 100);
        solver.say("a>=0", "a<=9", "maxa");
        solver.due(true, "isTight", 1);
        solver.due(false, "isTight", 0);
        solver.due(9, "setNumber", 1, -1);
        solver.due(Solver.NO_ELEMENT, "isTight", 0);
        solver.due(1, "dropRow", 1);
        solver.due('u', "state");
        solver.due(Solver.NO_ELEMENT, "isTight", 0);
    }

    private static void tightRowOrder() {
        Solver solver = solver("25: of several exceptions the first one", 0, 100);
        solver.say("a>=0", "a<=9", "maxa");
        solver.due(1, "dropRow", 1);
        solver.due('u', "state");
        solver.due(Solver.INDEX, "isTight", 2);
        solver.due(Solver.INDEX, "isTight", -1);
        solver.due(Solver.STATE, "isTight", 1);
        solver.due(Solver.NO_ELEMENT, "isTight", 0);
        solver.say("a<=-1");
        solver.due('i', "state");
        solver.due(Solver.INDEX, "isTight", 3);
        solver.due(Solver.STATE, "isTight", 1);
        solver.due(Solver.NO_ELEMENT, "isTight", 0);
    }

    private static void tightRowIsJustItsNumber() {
        Solver solver = solver("25: the sum of a row is just its number", 5, 9);
        solver.say("2a<=10", "2a>=10", "2a=10", "2a<=11", "2a>=9", "0a>=0");
        boolean[] due = {true, true, true, false, false, true};
        for (int row = 0; row < due.length; row++) {
            solver.due(due[row], "isTight", row);
        }
        solver.due(5, "tight");
    }

    private static void tightWithNothingThere() {
        Solver solver = solver("26: no variables, no rows");
        solver.due(0, "tight");
        solver.due(0, "addVariable", 0, 100);
        solver.due(1, "tight");
        solver.due(1, "addVariable", 0, 1);
        solver.due(2, "tight");
    }

    private static void tightBoundsTheSame() {
        Solver solver = solver("26: a variable whose bounds are the same counts twice", 7, 7);
        solver.due(2, "tight");
        solver.due(1, "addVariable", -50, -50);
        solver.due(4, "tight");
        solver.due(7, "setGreatest", 0, 8);
        solver.due(3, "tight");
        solver.say("maxa");
        solver.due(3, "tight");
        solver.due(7, "setLeast", 0, 8);
        solver.due(4, "tight");
    }

    private static void tightCountsNoDroppedRows() {
        Solver solver = solver("26: rows that are not dropped", 4, 100);
        solver.say("a>=4", "a<=4", "a=4", "a<=5");
        solver.due(4, "tight");
        solver.due(3, "dropRow", 0);
        solver.due(3, "tight");
        solver.due(2, "dropRow", 1);
        solver.due(2, "tight");
        solver.due(1, "dropRow", 2);
        solver.due(1, "tight");
        solver.due(0, "dropRow", 3);
        solver.due(1, "tight");
    }

    private static void tightWithAllThatCanBe() {
        Solver solver = solver("26: 6 rows and 6 bounds", 3, 3, 3, 3, 3, 3);
        solver.say("a+b<=6", "a-b=0", "b-c=0", "a+c>=6", "9a+9b-9c=27", "0a=0");
        solver.due(12, "tight");
        solver.due(1f, "tightShare");
        solver.say("max9a+9b+9c");
        value(solver, 0, 81, 1);
        solver.due(true, "isProved");
        solver = new Solver(CHECKS, 3, 4, 3, 4, 3, 4);
        solver.say("a-b=0", "b-c=0", "a-c=0", "a+b-2c=0", "0a=0", "0b=0", "max9a+9b+9c");
        value(solver, 0, 108, 1);
        solver.point(4, 1, 4, 1, 4, 1);
        solver.due(9, "tight");
        solver.due(true, "isProved");
    }

    private static void tightOnlyInO() {
        Solver solver = solver("26: the state is not 'o'", 0, 100);
        solver.due(1, "tight");
        solver.say("maxa");
        solver.due(Solver.NO_ELEMENT, "tight");
        solver.say("a<=0");
        solver.due(2, "tight");
        solver.due(0, "setNumber", 0, -1);
        solver.due(Solver.NO_ELEMENT, "tight");
    }

    private static void provedWithoutAims() {
        Solver solver = solver("27: true without aims");
        solver.due(true, "isProved");
        solver.due(0, "addVariable", 0, 100);
        solver.due(true, "isProved");
        solver.say("0a=1");
        solver.due('i', "state");
        solver.due(true, "isProved");
    }

    private static void provedInEachState() {
        Solver solver = solver("27: 'o', 'i' and 'u' are proved", 0, 100, 0, 100);
        solver.say("maxa", "maxb");
        solver.due(0, "open");
        solver.due(true, "isProved");
        solver.say("3a+b<=10");
        solver.due('o', "state");
        solver.due(true, "isProved");
        solver.due(10, "setNumber", 0, -1);
        solver.due('i', "state");
        solver.due(true, "isProved");
        solver.due(0, "dropRow", 0);
        solver.due(100, "setGreatest", 0, 7);
        solver.due(1, "open");
        solver.due(true, "isProved");
        // A way that is open only along rows.
        solver.due(2, "dropAims");
        solver.due(7, "setGreatest", 0, 100);
        solver.say("a-2b=3", "maxa");
        solver.due(0, "open");
        solver.due(true, "isProved");
        solver.say("a-b<=5");
        solver.due('o', "state");
        solver.due(true, "isProved");
    }
}
