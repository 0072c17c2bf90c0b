/**
 * A test for each sentence that names an edge of rows and aims: promises 10 to 17 and 'Rows and
 * aims'.
 */
public final class RowEdgesTest {
    private static final int LOWEST = Integer.MIN_VALUE;
    private static final int HIGHEST = Integer.MAX_VALUE;
    private static final Checks CHECKS = new Checks();

    private RowEdgesTest() { }

    public static void main(String[] args) {
        textWithAFaultIsNotTold();
        sixRowsThatAreNotDropped();
        twelveRows();
        threeAims();
        faultIsListedFirst();
        rowsAndAimsDoNotCrowdEachOther();
        textIsEmptyThen();
        rowsAreNumberedFrom0();
        aimsAreNumberedFrom0();
        dropOfNoRow();
        dropOfADroppedRow();
        rowsThatAreNotDroppedThen();
        numberOfNoRow();
        numberFromMinus99To99();
        numberOfADroppedRow();
        numberOrder();
        numberBefore();
        dropAims();
        coefficientOfNoRow();
        coefficientOfNoVariable();
        coefficientOfADroppedRow();
        coefficientOfALaterVariable();
        relationOfNoRow();
        relations();
        writtenTerms();
        writtenNumbers();
        writtenWithoutTerms();
        writtenShortestAndLongest();
        writtenOfNoRow();
        writtenOfADroppedRow();
        rowsHoldAtTheirNumber();
        CHECKS.end("RowEdgesTest");
    }

    private static Solver solver(String sentence, int... bounds) {
        CHECKS.about(sentence);
        return new Solver(CHECKS, bounds);
    }

    private static void textWithAFaultIsNotTold() {
        for (String words : new String[] {"", "a", "a<=", "a<=123", "b=1", "9a+a=1", "m", "maxb",
            "max9a+a", "maxa=1"}) {
            Solver solver = solver("10: the text has a fault", 0, 9);
            solver.type(words);
            solver.due(Solver.UNSUPPORTED, "tell");
            solver.due(Solver.UNSUPPORTED, "tell");
            solver.due(words.length(), "erase");
            solver.due(Solver.INDEX, "relation", 0);
            solver.due(Solver.INDEX, "valueTop", 0);
        }
    }

    private static void sixRowsThatAreNotDropped() {
        Solver solver = solver("10: 6 are not dropped", 0, 9);
        for (int i = 0; i < 6; i++) {
            solver.type("a<=1");
            solver.due(i, "tell");
        }
        solver.type("a<=1");
        solver.due(Solver.STATE, "tell");
        solver.due('-', "fault");
        solver.due(5, "dropRow", 5);
        solver.due(6, "tell");
        solver.due(0, "erase");
        solver.type("a<=1");
        solver.due(Solver.STATE, "tell");
    }

    /** Tells 11 rows, all of which are dropped. */
    private static Solver elevenTold() {
        Solver solver = new Solver(CHECKS, 0, 9);
        for (int i = 0; i < 11; i++) {
            solver.say("a<=1");
            solver.due(0, "dropRow", i);
        }
        return solver;
    }

    private static void twelveRows() {
        CHECKS.about("10: 12 rows were told");
        Solver solver = elevenTold();
        solver.type("a<=2");
        solver.due(11, "tell");
        solver.type("a<=1");
        solver.due(Solver.STATE, "tell");
        solver.due(0, "dropRow", 11);
        // All are dropped, and yet none more can be told.
        solver.due(Solver.STATE, "tell");
        solver.due(4, "erase");
        solver.due(Solver.INDEX, "relation", 12);
        solver.due('<', "relation", 11);
        solver.line(11, "a<=2");
    }

    private static void threeAims() {
        Solver solver = solver("10: there are 3 aims", 0, 9);
        for (int i = 0; i < 3; i++) {
            solver.due(Solver.INDEX, "valueTop", i);
            solver.type("maxa");
            solver.due(i, "tell");
            solver.due(9, "valueTop", i);
        }
        solver.type("mina");
        solver.due(Solver.STATE, "tell");
        solver.due(4, "erase");
        solver.due(Solver.INDEX, "valueTop", 3);
    }

    private static void faultIsListedFirst() {
        Solver solver = solver("10: of two exceptions the first one", 0, 9);
        solver.say("a<=1", "a<=1", "a<=1", "a<=1", "a<=1", "a<=1", "maxa", "maxa", "maxa");
        solver.type("a<=123");
        solver.due(Solver.UNSUPPORTED, "tell");
        solver.due(6, "erase");
        solver.type("maxb");
        solver.due(Solver.UNSUPPORTED, "tell");
        solver.due(4, "erase");
        solver.due(Solver.UNSUPPORTED, "tell");
    }

    private static void rowsAndAimsDoNotCrowdEachOther() {
        Solver solver = solver("10: if it is a row, and; or if it is an aim, and", 0, 9);
        solver.say("a<=1", "a<=1", "a<=1", "a<=1", "a<=1", "a<=1");
        solver.type("maxa");
        solver.due(0, "tell");
        solver.say("maxa", "maxa");
        solver.due(5, "dropRow", 0);
        solver.type("a<=1");
        solver.due(6, "tell");
        solver = elevenTold();
        solver.say("a<=2", "maxa", "maxa");
        solver.type("maxa");
        solver.due(2, "tell");
    }

    private static void textIsEmptyThen() {
        Solver solver = solver("10: the typed text is empty then", 0, 9);
        for (String words : new String[] {"a<=1", "maxa"}) {
            solver.type(words);
            solver.due(0, "tell");
            solver.due(false, "isAim");
            solver.due('s', "fault");
            solver.due(0, "faultAt");
            solver.due(Solver.UNSUPPORTED, "tell");
            solver.due(1, "type", 'm');
            solver.due(1, "erase");
        }
    }

    private static void rowsAreNumberedFrom0() {
        Solver solver = solver("10: returns the number of the row", 0, 9);
        for (int i = 0; i < 12; i++) {
            solver.type("a>=" + i);
            solver.due(i, "tell");
            solver.due(i, "setNumber", i, 0);
            if (i >= 5) {
                solver.due(5, "dropRow", i - 5);
            }
        }
    }

    private static void aimsAreNumberedFrom0() {
        Solver solver = solver("10: returns the number of the aim", 2, 9);
        for (int round = 0; round < 2; round++) {
            for (int i = 0; i < 3; i++) {
                solver.type("max" + i + "a");
                solver.due(i, "tell");
                solver.due(i * 9, "valueTop", i);
            }
            solver.due(3, "dropAims");
        }
    }

    private static void dropOfNoRow() {
        Solver solver = solver("11: there is no such row", 0, 9);
        for (int i = 0; i < 3; i++) {
            solver.due(Solver.INDEX, "dropRow", i);
            solver.due(Solver.INDEX, "dropRow", -1);
            solver.due(Solver.INDEX, "dropRow", LOWEST);
            solver.due(Solver.INDEX, "dropRow", HIGHEST);
            solver.say("a<=1");
        }
        solver.due(2, "dropRow", 2);
        solver.due(1, "dropRow", 0);
        solver.due(Solver.INDEX, "dropRow", 3);
    }

    private static void dropOfADroppedRow() {
        Solver solver = solver("11: it was dropped", 0, 9);
        solver.say("a<=1", "a<=2");
        solver.due(1, "dropRow", 0);
        solver.due(Solver.STATE, "dropRow", 0);
        solver.due(0, "dropRow", 1);
        solver.due(Solver.STATE, "dropRow", 0);
        solver.due(Solver.STATE, "dropRow", 1);
        solver.due(Solver.INDEX, "dropRow", 2);
    }

    private static void rowsThatAreNotDroppedThen() {
        Solver solver = solver("11: returns the number of rows that are not dropped then", 0, 9);
        solver.say("a<=1", "a<=2", "a<=3", "a<=4", "a<=5", "a<=6");
        int[] order = {5, 0, 3, 1, 4, 2};
        for (int i = 0; i < order.length; i++) {
            solver.due(5 - i, "dropRow", order[i]);
        }
        solver.due('o', "state");
        solver.say("a<=7");
        solver.due(0, "dropRow", 6);
    }

    private static void numberOfNoRow() {
        Solver solver = solver("12: there is no such row", 0, 9);
        for (int i = 0; i < 3; i++) {
            solver.due(Solver.INDEX, "setNumber", i, 1);
            solver.due(Solver.INDEX, "setNumber", -1, 1);
            solver.due(Solver.INDEX, "setNumber", LOWEST, 1);
            solver.due(Solver.INDEX, "setNumber", HIGHEST, 1);
            solver.say("a<=1");
            solver.due(1, "setNumber", i, 2);
        }
    }

    private static void numberFromMinus99To99() {
        Solver solver = solver("12: from -99 to 99", -50, 100);
        solver.say("a<=1", "maxa");
        solver.due(Solver.ARGUMENT, "setNumber", 0, 100);
        solver.due(Solver.ARGUMENT, "setNumber", 0, -100);
        solver.due(Solver.ARGUMENT, "setNumber", 0, HIGHEST);
        solver.due(Solver.ARGUMENT, "setNumber", 0, LOWEST);
        solver.value(0, 1, 1);
        solver.due(1, "setNumber", 0, 99);
        solver.value(0, 99, 1);
        solver.line(0, "a<=99");
        solver.due(99, "setNumber", 0, -99);
        solver.line(0, "a<=-99");
        solver.due('i', "state");
        solver.due(-99, "setNumber", 0, -50);
        solver.value(0, -50, 1);
    }

    private static void numberOfADroppedRow() {
        Solver solver = solver("12: it was dropped", 0, 9);
        solver.say("a<=1", "a<=2");
        solver.due(1, "dropRow", 0);
        solver.due(Solver.STATE, "setNumber", 0, 5);
        solver.due(Solver.STATE, "setNumber", 0, 99);
        solver.due(Solver.STATE, "setNumber", 0, -99);
        solver.line(0, "a<=1");
        solver.due(2, "setNumber", 1, 5);
    }

    private static void numberOrder() {
        Solver solver = solver("12: of two exceptions the first one", 0, 9);
        solver.say("a<=1");
        solver.due(Solver.INDEX, "setNumber", 1, 100);
        solver.due(Solver.INDEX, "setNumber", -1, -100);
        solver.due(0, "dropRow", 0);
        solver.due(Solver.ARGUMENT, "setNumber", 0, 100);
        solver.due(Solver.ARGUMENT, "setNumber", 0, -100);
        solver.due(Solver.INDEX, "setNumber", 1, 100);
        solver.due(Solver.STATE, "setNumber", 0, 0);
    }

    private static void numberBefore() {
        Solver solver = solver("12: returns the number before", 0, 9);
        solver.say("a<=-0", "a<=99", "a<=-99");
        solver.due(0, "setNumber", 0, -99);
        solver.due(-99, "setNumber", 0, 99);
        solver.due(99, "setNumber", 0, 0);
        solver.due(0, "setNumber", 0, 0);
        solver.due(99, "setNumber", 1, 1);
        solver.due(-99, "setNumber", 2, 1);
    }

    private static void dropAims() {
        for (int count = 0; count <= 3; count++) {
            Solver solver = solver("13: returns how many there were", 0, 9);
            for (int i = 0; i < count; i++) {
                solver.say("maxa");
            }
            solver.due(count, "dropAims");
            solver.due(0, "dropAims");
            solver.due(Solver.INDEX, "valueTop", 0);
            solver.due(Solver.INDEX, "wholeValue", 0);
            solver.point(0, 1);
            solver.say("maxa");
            solver.point(9, 1);
        }
    }

    private static void coefficientOfNoRow() {
        Solver solver = solver("14: there is no such row", 0, 9);
        for (int i = 0; i < 2; i++) {
            solver.due(Solver.INDEX, "coefficient", i, 0);
            solver.due(Solver.INDEX, "coefficient", -1, 0);
            solver.due(Solver.INDEX, "coefficient", LOWEST, 0);
            solver.due(Solver.INDEX, "coefficient", HIGHEST, 0);
            solver.say("5a<=1");
            solver.due(5, "coefficient", i, 0);
        }
    }

    private static void coefficientOfNoVariable() {
        CHECKS.about("14: there is no such variable");
        for (int count = 1; count <= 3; count++) {
            Solver solver = new Solver(CHECKS);
            for (int i = 0; i < count; i++) {
                solver.due(i, "addVariable", 0, 9);
            }
            solver.say("5a<=1", "6a<=1");
            for (int row = 0; row < 2; row++) {
                solver.due(row + 5, "coefficient", row, 0);
                solver.due(count == 1 ? row + 5 : 0, "coefficient", row, count - 1);
                for (int variable : new int[] {count, count + 1, -1, LOWEST, HIGHEST}) {
                    solver.due(Solver.INDEX, "coefficient", row, variable);
                }
            }
        }
    }

    private static void coefficientOfADroppedRow() {
        Solver solver = solver("14: also of a dropped one", 0, 9, 0, 9);
        solver.say("9a-9b<=1");
        solver.due(0, "dropRow", 0);
        solver.due(9, "coefficient", 0, 0);
        solver.due(-9, "coefficient", 0, 1);
        solver.due(Solver.INDEX, "coefficient", 0, 2);
        solver.due(Solver.INDEX, "coefficient", 1, 0);
    }

    private static void coefficientOfALaterVariable() {
        Solver solver = solver("14: 0 for a variable that was added behind the row", 0, 9);
        solver.say("7a<=1", "max3a");
        solver.due(Solver.INDEX, "coefficient", 0, 1);
        solver.due(1, "addVariable", 2, 9);
        solver.due(0, "coefficient", 0, 1);
        solver.say("8b-a<=30");
        solver.due(2, "addVariable", 3, 9);
        solver.due(0, "coefficient", 0, 2);
        solver.due(0, "coefficient", 1, 2);
        solver.due(8, "coefficient", 1, 1);
        solver.due(7, "coefficient", 0, 0);
        solver.line(0, "7a<=1");
        solver.value(0, 3, 7);
        solver.point(1, 7, 2, 1, 3, 1);
    }

    private static void relationOfNoRow() {
        Solver solver = solver("15: there is no such row", 0, 9);
        for (int i = 0; i < 2; i++) {
            solver.due(Solver.INDEX, "relation", i);
            solver.due(Solver.INDEX, "relation", -1);
            solver.due(Solver.INDEX, "relation", LOWEST);
            solver.due(Solver.INDEX, "relation", HIGHEST);
            solver.say("a=1");
            solver.due('=', "relation", i);
        }
    }

    private static void relations() {
        Solver solver = solver("15: returns '<', '>' or '='", 0, 9);
        solver.say("a<=1", "a>=1", "a=1");
        for (int round = 0; round < 2; round++) {
            solver.due('<', "relation", 0);
            solver.due('>', "relation", 1);
            solver.due('=', "relation", 2);
            for (int row = 0; row < 3 && round == 0; row++) {
                solver.due(2 - row, "dropRow", row);
            }
        }
    }

    private static void writtenTerms() {
        Solver solver = solver("16: only those whose coefficients are not 0, in the shortest way",
                0, 9, 0, 9, 0, 9);
        solver.say("1a=1", "-1a=1", "2a=1", "-9c=1", "0a+b-0c=1", "c-b=1");
        String[] due = {"a=1", "-a=1", "2a=1", "-9c=1", "b=1", "-b+c=1"};
        for (int i = 0; i < due.length; i++) {
            solver.line(i, due[i]);
        }
        solver = solver("16: its terms by the letters", 0, 9, 0, 9, 0, 9);
        solver.say("c+b+a=1", "9c-9b+9a=1", "a+2c=1", "-c-a=1", "a+b-a=1", "b-2b=1");
        due = new String[] {"a+b+c=1", "9a-9b+9c=1", "a+2c=1", "-a-c=1", "b=1", "-b=1"};
        for (int i = 0; i < due.length; i++) {
            solver.line(i, due[i]);
        }
    }

    private static void writtenNumbers() {
        Solver solver = solver("16: then its relation, then its number", 0, 9);
        solver.say("a<=00", "a>=-0", "a=-00", "a<=09", "a>=-09", "a=10");
        String[] due = {"a<=0", "a>=0", "a=0", "a<=9", "a>=-9", "a=10"};
        for (int i = 0; i < due.length; i++) {
            solver.line(i, due[i]);
        }
        solver.due(10, "setNumber", 5, -10);
        solver.line(5, "a=-10");
        solver.due(-10, "setNumber", 5, 99);
        solver.line(5, "a=99");
        solver.due(99, "setNumber", 5, -99);
        solver.line(5, "a=-99");
    }

    private static void writtenWithoutTerms() {
        Solver solver = solver("16: the character 0 if there are none", 0, 9, 0, 9, 0, 9);
        solver.say("0a<=5", "a-a>=-5", "9a-5b-9a+5b+0c=0");
        solver.line(0, "0<=5");
        solver.line(1, "0>=-5");
        solver.line(2, "0=0");
    }

    private static void writtenShortestAndLongest() {
        Solver solver = solver("17: the index, from 0", 0, 9, 0, 9, 0, 9);
        solver.say("0a=0", "-9a-9b-9c>=-99");
        solver.line(0, "0=0");
        solver.line(1, "-9a-9b-9c>=-99");
        for (int index : new int[] {LOWEST, -1, 3, 14, HIGHEST}) {
            solver.due(Solver.INDEX, "lineAt", 0, index);
        }
        solver.due('0', "lineAt", 0, 2);
        solver.due('9', "lineAt", 1, 13);
        for (int index : new int[] {LOWEST, -1, 14, 15, 30, HIGHEST}) {
            solver.due(Solver.INDEX, "lineAt", 1, index);
        }
    }

    private static void writtenOfNoRow() {
        Solver solver = solver("16, 17: there is no such row", 0, 9);
        for (int i = 0; i < 2; i++) {
            for (int row : new int[] {i, -1, LOWEST, HIGHEST}) {
                solver.due(Solver.INDEX, "lineLength", row);
                solver.due(Solver.INDEX, "lineAt", row, 0);
                solver.due(Solver.INDEX, "lineAt", row, -1);
            }
            solver.say("a=1");
            solver.line(i, "a=1");
        }
    }

    private static void writtenOfADroppedRow() {
        Solver solver = solver("16: a dropped row is written as before", 0, 9);
        solver.say("7a>=1");
        solver.due(0, "dropRow", 0);
        solver.line(0, "7a>=1");
        solver.due(1, "addVariable", 0, 9);
        solver.line(0, "7a>=1");
    }

    private static void rowsHoldAtTheirNumber() {
        Solver solver = solver("Rows: at most, at least, or just the number", 5, 5);
        solver.say("a<=5", "a>=5", "a=5");
        solver.due('o', "state");
        solver.due(5, "setNumber", 0, 4);
        solver.due('i', "state");
        solver.due(4, "setNumber", 0, 6);
        solver.due('o', "state");
        solver.due(5, "setNumber", 1, 6);
        solver.due('i', "state");
        solver.due(6, "setNumber", 1, 4);
        solver.due('o', "state");
        solver.due(5, "setNumber", 2, 4);
        solver.due('i', "state");
        solver.due(4, "setNumber", 2, 6);
        solver.due('i', "state");
        solver.due(6, "setNumber", 2, 5);
        solver.due('o', "state");
    }
}
