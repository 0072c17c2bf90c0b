/**
 * A test for each sentence that names an edge of worth, conflicts and whole points: promises
 * 28 to 32 and what 'Terms' says of them.
 */
public final class WorthEdgesTest {
    private static final int LOWEST = Integer.MIN_VALUE;
    private static final int HIGHEST = Integer.MAX_VALUE;
    private static final String[] OF_WORTH = {"worthTop", "worthBottom"};
    private static final Checks CHECKS = new Checks();

    private WorthEdgesTest() { }

    public static void main(String[] args) {
        worthOfNoRow();
        worthOfADroppedRow();
        worthWithoutAims();
        worthWithoutABestNow();
        worthWithoutABestThen();
        worthBehindAnOpenAim();
        worthOrder();
        worthAtTheEndsOfNumbers();
        worthInLowestTerms();
        worthOfEachRelation();
        worthIsForTheFirstAim();
        conflictIfAPointFits();
        conflictOfNoRows();
        conflictGoesByRisingNumbers();
        conflictLeavesDroppedRowsOut();
        conflictWithTheLastRow();
        conflictOfSixRows();
        wholeOfNoVariable();
        wholeOfNoAim();
        wholeAtMost6More();
        wholeWithoutAGreatest();
        wholeOfEachVariable();
        wholeIfThereIsNone();
        wholeOrder();
        wholeAtTheEndsOfBounds();
        wholeOfBoundsOfManyWidths();
        wholeTies();
        wholeValues();
        wholeWhateverTheState();
        CHECKS.end("WorthEdgesTest");
    }

    private static Solver solver(String sentence, int... bounds) {
        CHECKS.about(sentence);
        return new Solver(CHECKS, bounds);
    }

    private static void due(Solver solver, Object due, String[] names, int argument) {
        for (String name : names) {
            solver.due(due, name, argument);
        }
    }

    private static void worthOfNoRow() {
        Solver solver = solver("28 and 29: there is no such row", 0, 9);
        solver.say("maxa");
        for (int count = 0; count < 3; count++) {
            for (int row : new int[] {count, count + 1, -1, LOWEST, HIGHEST}) {
                due(solver, Solver.INDEX, OF_WORTH, row);
            }
            solver.say("a<=5");
            solver.worth(count, count == 0 ? 1 : 0, 1);
        }
    }

    private static void worthOfADroppedRow() {
        Solver solver = solver("28 and 29: the row was dropped", 0, 9);
        solver.say("maxa", "a<=5", "a<=7");
        solver.worth(0, 1, 1);
        solver.due(1, "dropRow", 0);
        due(solver, Solver.STATE, OF_WORTH, 0);
        solver.worth(1, 1, 1);
        solver.due(0, "dropRow", 1);
        due(solver, Solver.STATE, OF_WORTH, 1);
    }

    private static void worthWithoutAims() {
        Solver solver = solver("28 and 29: there are no aims", 0, 9);
        solver.say("a<=5");
        due(solver, Solver.STATE, OF_WORTH, 0);
        solver.say("maxa");
        solver.worth(0, 1, 1);
        solver.due(1, "dropAims");
        due(solver, Solver.STATE, OF_WORTH, 0);
    }

    private static void worthWithoutABestNow() {
        Solver solver = solver("28 and 29: no best value now", 0, 100);
        solver.say("maxa", "a>=0");
        solver.due('u', "state");
        due(solver, Solver.NO_ELEMENT, OF_WORTH, 0);
        solver.say("a<=-1");
        solver.due('i', "state");
        due(solver, Solver.NO_ELEMENT, OF_WORTH, 0);
        // With 0 in place of -1 there would be one.
        due(solver, Solver.NO_ELEMENT, OF_WORTH, 1);
        solver.due(-1, "setNumber", 1, 0);
        solver.worth(1, 1, 1);
    }

    private static void worthWithoutABestThen() {
        Solver solver = solver("28 and 29: no best value then", 0, 9);
        solver.say("maxa", "a>=9", "a<=9", "a=9", "0a<=0", "0a>=0", "0a=0");
        due(solver, Solver.NO_ELEMENT, OF_WORTH, 0);
        solver.worth(1, 0, 1);
        due(solver, Solver.NO_ELEMENT, OF_WORTH, 2);
        solver.worth(3, 0, 1);
        due(solver, Solver.NO_ELEMENT, OF_WORTH, 4);
        due(solver, Solver.NO_ELEMENT, OF_WORTH, 5);
        solver.due(0, "setNumber", 4, -1);
        solver.worth(4, 0, 1);
    }

    private static void worthBehindAnOpenAim() {
        Solver solver = solver("28 and 29: only the first aim counts", 0, 100, 0, 100);
        solver.say("maxa", "maxb", "a<=5");
        solver.due(1, "open");
        solver.worth(0, 1, 1);
        solver.due(2, "dropAims");
        solver.say("maxb", "maxa");
        solver.due(0, "open");
        due(solver, Solver.NO_ELEMENT, OF_WORTH, 0);
    }

    private static void worthOrder() {
        Solver solver = solver("28 and 29: of several exceptions the first one", 0, 100);
        solver.say("a>=0", "a>=0");
        solver.due(1, "dropRow", 1);
        due(solver, Solver.INDEX, OF_WORTH, 2);
        due(solver, Solver.INDEX, OF_WORTH, -1);
        due(solver, Solver.STATE, OF_WORTH, 1);
        due(solver, Solver.STATE, OF_WORTH, 0);
        solver.say("maxa");
        due(solver, Solver.INDEX, OF_WORTH, 2);
        due(solver, Solver.STATE, OF_WORTH, 1);
        due(solver, Solver.NO_ELEMENT, OF_WORTH, 0);
        solver.due(1, "dropAims");
        solver.say("a<=-1");
        solver.due('i', "state");
        due(solver, Solver.STATE, OF_WORTH, 0);
    }

    private static void worthAtTheEndsOfNumbers() {
        Solver solver = solver("Worth: the number is greater by 1, also at 99 and -99", -50, 100);
        solver.say("max2a", "a<=99", "2a>=-99");
        solver.worth(0, 2, 1);
        solver.due(99, "setNumber", 0, 98);
        solver.worth(0, 2, 1);
        solver.due(1, "dropAims");
        solver.say("min2a");
        solver.worth(1, 1, 1);
        solver.due(98, "setNumber", 0, -49);
        solver.worth(1, 1, 1);
        // What was asked for the worth has not changed the number.
        solver.due(-49, "setNumber", 0, 0);
        solver.due(-99, "setNumber", 1, 0);
    }

    private static void worthInLowestTerms() {
        Solver solver = solver("Fractions: a worth in lowest terms", 0, 100);
        solver.say("max6a", "4a<=5");
        solver.worth(0, 3, 2);
        solver.due(1, "dropAims");
        solver.say("min-6a");
        solver.worth(0, -3, 2);
        solver.due(1, "dropAims");
        solver.say("max8a");
        solver.worth(0, 2, 1);
        solver.due(1, "dropAims");
        solver.say("max0a");
        solver.worth(0, 0, 1);
    }

    private static void worthOfEachRelation() {
        Solver solver = solver("Worth: rows with '<', '>' and '='", 0, 100, 0, 100);
        solver.say("a+b<=9", "a>=2", "b=3", "max2a+5b");
        solver.worth(0, 2, 1);
        solver.worth(1, 0, 1);
        solver.worth(2, 3, 1);
        solver.due(1, "dropAims");
        solver.say("min2a+5b");
        solver.worth(0, 0, 1);
        solver.worth(1, 2, 1);
        solver.worth(2, 5, 1);
    }

    private static void worthIsForTheFirstAim() {
        Solver solver = solver("Worth: for the first aim", 0, 9, 0, 9);
        solver.say("a<=5", "b<=6", "maxa", "max7b", "max8a");
        solver.worth(0, 1, 1);
        solver.worth(1, 0, 1);
        solver.due(3, "dropAims");
        solver.say("max7b", "maxa");
        solver.worth(0, 0, 1);
        solver.worth(1, 7, 1);
    }

    private static void conflictIfAPointFits() {
        Solver solver = solver("30: a point fits");
        solver.due(Solver.STATE, "conflict");
        solver.due(0, "addVariable", 0, 100);
        solver.due(Solver.STATE, "conflict");
        solver.say("a<=0", "maxa");
        solver.due('o', "state");
        solver.due(Solver.STATE, "conflict");
        solver.due(0, "setNumber", 0, -1);
        solver.due(1, "conflict");
        solver.due(0, "dropRow", 0);
        solver.due('u', "state");
        solver.due(Solver.STATE, "conflict");
    }

    private static void conflictOfNoRows() {
        Solver solver = solver("30: bounds alone are never in conflict", -50, -50, 50, 50, 0, 100);
        solver.due(Solver.STATE, "conflict");
        solver.say("a-a=1");
        solver.due(1, "conflict");
        solver.due(0, "dropRow", 0);
        solver.due(Solver.STATE, "conflict");
    }

    private static void conflictGoesByRisingNumbers() {
        Solver solver = solver("Conflicts: by rising numbers, each is left out for good", 0, 9);
        solver.say("a<=3", "a>=5", "a<=4", "a>=6");
        solver.due(4 + 8, "conflict");
        solver.due(3, "dropRow", 3);
        solver.due(2 + 4, "conflict");
        solver.due(2, "dropRow", 2);
        solver.due(1 + 2, "conflict");
        solver.say("a=7", "a=8");
        solver.due(16 + 32, "conflict");
    }

    private static void conflictLeavesDroppedRowsOut() {
        Solver solver = solver("Conflicts: rows that are not dropped", 0, 9);
        solver.say("0a=1", "0a=1", "0a=1");
        solver.due(4, "conflict");
        solver.due(2, "dropRow", 2);
        solver.due(2, "conflict");
        solver.due(1, "dropRow", 1);
        solver.due(1, "conflict");
        solver.due(0, "dropRow", 0);
        solver.due(Solver.STATE, "conflict");
    }

    private static void conflictWithTheLastRow() {
        Solver solver = solver("30: the sum of 2 to the power of the number", 0, 9);
        for (int i = 0; i < 10; i++) {
            solver.say("0a=1");
            solver.due(1 << i, "conflict");
            solver.due(0, "dropRow", i);
        }
        solver.say("a<=3", "a>=4");
        solver.due((1 << 10) + (1 << 11), "conflict");
    }

    private static void conflictOfSixRows() {
        Solver solver = solver("30: at most as many rows as are not dropped", 0, 100, 0, 100, 0, 100);
        solver.say("a=1", "b=2", "c=3", "a+b+c<=5", "a<=9", "b<=9");
        solver.due(1 + 2 + 4 + 8, "conflict");
        solver.due(5, "setNumber", 3, 6);
        solver.due(Solver.STATE, "conflict");
        solver.due(9, "setNumber", 4, 0);
        solver.due(1 + 16, "conflict");
    }

    private static void wholeOfNoVariable() {
        Solver solver = solver("31: there is no such variable");
        for (int count = 0; count <= 3; count++) {
            for (int variable : new int[] {count, count + 1, -1, LOWEST, HIGHEST}) {
                solver.due(Solver.INDEX, "wholeAt", variable);
            }
            if (count < 3) {
                solver.due(count, "addVariable", count + 4, count + 5);
                solver.due(count + 4, "wholeAt", count);
            }
        }
    }

    private static void wholeOfNoAim() {
        Solver solver = solver("32: there is no such aim", 0, 3);
        for (int count = 0; count <= 3; count++) {
            for (int aim : new int[] {count, count + 1, -1, LOWEST, HIGHEST}) {
                solver.due(Solver.INDEX, "wholeValue", aim);
            }
            if (count < 3) {
                solver.say("max" + (count + 1) + "a");
                solver.due(3 * (count + 1), "wholeValue", count);
            }
        }
    }

    private static void wholeAtMost6More() {
        for (int least : new int[] {-50, -3, 0, 50}) {
            Solver solver = solver("Whole points: at most 6 more than its least one",
                    least, least + 6);
            solver.say("maxa");
            solver.due(least + 6, "wholeAt", 0);
            solver.due(least + 6, "wholeValue", 0);
            solver.due(least + 6, "setGreatest", 0, least + 7);
            solver.due(Solver.UNSUPPORTED, "wholeAt", 0);
            solver.due(Solver.UNSUPPORTED, "wholeValue", 0);
            solver.due(least + 7, "setGreatest", 0, least);
            solver.due(least, "wholeAt", 0);
        }
    }

    private static void wholeWithoutAGreatest() {
        Solver solver = solver("Whole points: only if each variable has a greatest value", 50, 56);
        solver.say("maxa");
        solver.due(56, "wholeAt", 0);
        solver.due(56, "setGreatest", 0, 100);
        solver.due(Solver.UNSUPPORTED, "wholeAt", 0);
        solver.due(Solver.UNSUPPORTED, "wholeValue", 0);
        solver.say("a<=52");
        solver.due('o', "state");
        solver.due(Solver.UNSUPPORTED, "wholeAt", 0);
    }

    private static void wholeOfEachVariable() {
        Solver solver = solver("Whole points: each variable", 0, 6, 0, 6, 0, 6);
        solver.due(0, "wholeAt", 2);
        for (int wide = 0; wide < 3; wide++) {
            solver.due(6, "setGreatest", wide, 7);
            for (int i = 0; i < 3; i++) {
                solver.due(Solver.UNSUPPORTED, "wholeAt", i);
            }
            solver.due(0, "setLeast", wide, 1);
            solver.due(1, "wholeAt", wide);
        }
    }

    private static void wholeIfThereIsNone() {
        Solver solver = solver("31 and 32: there is none", 0, 3);
        solver.say("maxa", "2a=3");
        solver.due('o', "state");
        solver.due(Solver.NO_ELEMENT, "wholeAt", 0);
        solver.due(Solver.NO_ELEMENT, "wholeValue", 0);
        solver.due(3, "setNumber", 0, 4);
        solver.due(2, "wholeAt", 0);
        solver.due(4, "setNumber", 0, 7);
        solver.due('i', "state");
        solver.due(Solver.NO_ELEMENT, "wholeAt", 0);
        solver.due(Solver.NO_ELEMENT, "wholeValue", 0);
    }

    private static void wholeOrder() {
        Solver solver = solver("31 and 32: of several exceptions the first one", 0, 7);
        solver.say("maxa", "0a=1");
        solver.due(Solver.INDEX, "wholeAt", 1);
        solver.due(Solver.INDEX, "wholeAt", -1);
        solver.due(Solver.INDEX, "wholeValue", 1);
        solver.due(Solver.INDEX, "wholeValue", -1);
        solver.due(Solver.UNSUPPORTED, "wholeAt", 0);
        solver.due(Solver.UNSUPPORTED, "wholeValue", 0);
        solver.due(7, "setGreatest", 0, 6);
        solver.due(Solver.INDEX, "wholeAt", 1);
        solver.due(Solver.INDEX, "wholeValue", 1);
        solver.due(Solver.NO_ELEMENT, "wholeAt", 0);
        solver.due(Solver.NO_ELEMENT, "wholeValue", 0);
    }

    private static void wholeAtTheEndsOfBounds() {
        Solver solver = solver("Whole points: values within their bounds", -50, -44, 50, 56, -3, 3);
        solver.say("maxa+b+c", "max-a");
        whole(solver, -44, 56, 3);
        solver.due(15, "wholeValue", 0);
        solver.due(44, "wholeValue", 1);
        solver.due(2, "dropAims");
        solver.say("min9a+9b+9c");
        whole(solver, -50, 50, -3);
        solver.due(-27, "wholeValue", 0);
    }

    private static void wholeOfBoundsOfManyWidths() {
        int[][] widths = {{0, 3, 6}, {6, 0, 3}, {3, 6, 0}, {1, 6, 6}, {6, 1, 6}, {6, 6, 1}};
        for (int[] width : widths) {
            Solver solver = solver("Whole points: to the greatest value of each variable",
                    1, 1 + width[0], 2, 2 + width[1], 3, 3 + width[2]);
            whole(solver, 1, 2, 3);
            solver.say("maxa+b+c");
            whole(solver, 1 + width[0], 2 + width[1], 3 + width[2]);
        }
    }

    private static void wholeTies() {
        Solver solver = solver("Whole points: found in the same way", 0, 6, 0, 6, 0, 6);
        solver.say("a+b+c=8");
        whole(solver, 0, 2, 6);
        solver.say("max0a");
        whole(solver, 0, 2, 6);
        solver.say("maxb");
        whole(solver, 0, 6, 2);
        solver.say("maxa");
        whole(solver, 2, 6, 0);
        solver.due(3, "dropAims");
        solver.say("maxa");
        whole(solver, 6, 0, 2);
        solver.say("minc");
        whole(solver, 6, 2, 0);
        solver.due(2, "dropAims");
        solver.say("minc", "maxa");
        whole(solver, 6, 2, 0);
    }

    private static void whole(Solver solver, int... due) {
        for (int i = 0; i < due.length; i++) {
            solver.due(due[i], "wholeAt", i);
        }
    }

    private static void wholeValues() {
        Solver solver = solver("32: the value of an aim at the best whole point", 0, 3, 0, 3);
        solver.say("2a+2b<=5", "maxa+b", "min-9a", "max9b-9a");
        solver.value(0, 5, 2);
        solver.due(2, "wholeValue", 0);
        solver.due(-18, "wholeValue", 1);
        solver.due(-18, "wholeValue", 2);
        solver.due(2, "wholeAt", 0);
        solver.due(0, "wholeAt", 1);
    }

    private static void wholeWhateverTheState() {
        Solver solver = solver("31: no variables, no rows, no aims");
        solver.due(Solver.INDEX, "wholeAt", 0);
        solver.due(Solver.INDEX, "wholeValue", 0);
        solver.due(0, "addVariable", -2, 4);
        solver.due(-2, "wholeAt", 0);
        solver.due(Solver.INDEX, "wholeValue", 0);
        solver.say("a>=3");
        solver.due(3, "wholeAt", 0);
        solver.due(0, "dropRow", 0);
        solver.due(-2, "wholeAt", 0);
    }
}
