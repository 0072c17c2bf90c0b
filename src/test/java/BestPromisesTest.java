/** Promises 18 to 27: the best point. */
public final class BestPromisesTest {
    private static final int LOWEST = Integer.MIN_VALUE;
    private static final Checks CHECKS = new Checks();

    private BestPromisesTest() { }

    public static void main(String[] args) {
        promise18();
        promise19();
        promise20And21();
        promise20Fractions();
        promise20AllSides();
        promise22();
        promise23And24();
        promise23Ties();
        promise25();
        promise26();
        promise27();
        CHECKS.end("BestPromisesTest");
    }

    private static Solver solver(int promise) {
        CHECKS.about("promise " + promise);
        return new Solver(CHECKS);
    }

    private static void promise18() {
        Solver solver = solver(18);
        solver.due('o', "state");
        solver.due(0, "addVariable", 0, 100);
        solver.due('o', "state");
        solver.say("maxa");
        solver.due('u', "state");
        solver.say("a<=-1");
        solver.due('i', "state");
        solver.due(-1, "setNumber", 0, 0);
        solver.due('o', "state");
        solver.due(0, "dropRow", 0);
        solver.due('u', "state");
        solver.say("a-a>=1");
        solver.due('i', "state");
        solver.due(1, "setNumber", 1, 0);
        solver.due('u', "state");
        solver.due(1, "dropAims");
        solver.due('o', "state");
        solver.due(1, "addVariable", 0, 100);
        solver.say("a-b=0", "maxa-b");
        solver.due('o', "state");
        solver.value(0, 0, 1);
        solver.say("mina", "maxb-a+b");
        solver.due('o', "state");
    }

    private static void promise19() {
        Solver solver = solver(19);
        solver.due(Solver.NO_ELEMENT, "open");
        solver.due(0, "addVariable", 0, 5);
        solver.due(1, "addVariable", 0, 100);
        solver.due(2, "addVariable", 0, 100);
        solver.say("maxa", "maxb");
        solver.due(1, "open");
        solver.say("b<=3");
        solver.due(Solver.NO_ELEMENT, "open");
        solver.say("maxc");
        solver.due(2, "open");
        solver.due(5, "setGreatest", 0, 100);
        solver.due(0, "open");
        solver.due(3, "setNumber", 0, -1);
        solver.due(Solver.NO_ELEMENT, "open");
    }

    private static void promise20And21() {
        Solver solver = solver(20);
        solver.due(0, "addVariable", -5, 5);
        solver.due(1, "addVariable", -5, 100);
        solver.due(Solver.INDEX, "valueTop", 0);
        solver.due(Solver.INDEX, "valueBottom", 0);
        solver.say("maxa", "maxb", "min2a");
        solver.value(0, 5, 1);
        for (int aim = 1; aim < 3; aim++) {
            solver.due(Solver.NO_ELEMENT, "valueTop", aim);
            solver.due(Solver.NO_ELEMENT, "valueBottom", aim);
        }
        for (int aim : new int[] {3, -1, LOWEST}) {
            solver.due(Solver.INDEX, "valueTop", aim);
            solver.due(Solver.INDEX, "valueBottom", aim);
        }
        solver.say("a+b<=3");
        solver.value(0, 5, 1);
        solver.value(1, -2, 1);
        solver.value(2, 10, 1);
        solver.due(3, "setNumber", 0, -99);
        solver.due(Solver.NO_ELEMENT, "valueTop", 0);
        solver.due(Solver.NO_ELEMENT, "valueBottom", 0);
        solver.due(Solver.INDEX, "valueTop", 3);
    }

    private static void promise20Fractions() {
        Solver solver = solver(21);
        solver.due(0, "addVariable", 0, 100);
        solver.due(1, "addVariable", 0, 100);
        solver.due(2, "addVariable", 0, 100);
        solver.say("7a+5b+2c<=31", "2a+9b+4c<=37", "5a+3b+8c<=41", "max3a+4b+5c", "min-a-b");
        solver.value(0, 5490, 181);
        solver.due(5490, "topByPoints", 0);
        solver.point(342, 181, 421, 181, 556, 181);
        solver.due(2, "dropAims");
        solver.say("max6a-4b", "min6a-4b");
        solver.value(0, 186, 7);
        solver.value(1, 186, 7);
        solver.due(2, "dropAims");
        solver.say("min-6a", "max0a");
        solver.value(0, -186, 7);
        solver.value(1, 0, 1);
    }

    /** As many rows and bounds as there can be at once. */
    private static void promise20AllSides() {
        Solver solver = solver(20);
        for (int i = 0; i < 3; i++) {
            solver.due(i, "addVariable", 1, 9);
        }
        solver.say("a-b=0", "b-a=0", "2a-2b=0", "3b-3a=0", "a-a=0", "0c=0", "maxc", "maxa+b");
        solver.value(0, 9, 1);
        solver.value(1, 18, 1);
        solver.due(9, "topByPoints", 0);
        solver.due(18, "topByPoints", 1);
        solver.due(9, "tight");
        solver.due(1f, "tightShare");
        solver.due(true, "isProved");
        solver.due(Solver.NO_ELEMENT, "worthTop", 0);
    }

    private static void promise22() {
        Solver solver = solver(22);
        solver.due(Solver.INDEX, "topByPoints", 0);
        solver.due(0, "addVariable", -3, 100);
        solver.due(1, "addVariable", 2, 9);
        solver.say("maxa");
        solver.due(Solver.NO_ELEMENT, "topByPoints", 0);
        solver.due(Solver.INDEX, "topByPoints", 1);
        solver.due(Solver.INDEX, "topByPoints", -1);
        solver.say("3a+b=7", "mina+b", "maxb");
        solver.due(5, "topByPoints", 0);
        solver.due(11, "topByPoints", 1);
        solver.due(2, "topByPoints", 2);
        solver.due(Solver.INDEX, "topByPoints", 3);
        solver.due(2, "setLeast", 1, 3);
        solver.due(4, "topByPoints", 0);
        solver.due(7, "setNumber", 0, -99);
        solver.due(Solver.NO_ELEMENT, "topByPoints", 0);
        // The first aim has a best value, but the second one is open.
        solver.due(0, "dropRow", 0);
        solver.due(3, "dropAims");
        solver.say("mina", "maxb-b+a", "maxb");
        solver.due(-3, "topByPoints", 0);
        solver.due(9, "setGreatest", 1, 100);
        solver.due(Solver.NO_ELEMENT, "topByPoints", 0);
        solver.value(0, -3, 1);
    }

    private static void promise23And24() {
        Solver solver = solver(23);
        solver.due(Solver.INDEX, "pointTop", 0);
        solver.due(Solver.INDEX, "pointBottom", 0);
        solver.due(0, "addVariable", -7, 100);
        solver.point(-7, 1);
        solver.due(1, "addVariable", 4, 8);
        solver.point(-7, 1, 4, 1);
        for (int variable : new int[] {2, -1, LOWEST}) {
            solver.due(Solver.INDEX, "pointTop", variable);
            solver.due(Solver.INDEX, "pointBottom", variable);
        }
        solver.say("maxa");
        solver.due(Solver.NO_ELEMENT, "pointTop", 0);
        solver.due(Solver.NO_ELEMENT, "pointBottom", 1);
        solver.due(Solver.INDEX, "pointTop", 2);
        solver.say("4a+6b<=1");
        solver.point(-23, 4, 4, 1);
        solver.say("2a+9b>=26");
        solver.point(-49, 8, 17, 4);
        solver.due(1, "setNumber", 0, -99);
        solver.due(Solver.NO_ELEMENT, "pointTop", 0);
        solver.due(Solver.NO_ELEMENT, "pointBottom", 0);
    }

    private static void promise23Ties() {
        Solver solver = solver(23);
        solver.due(0, "addVariable", 0, 100);
        solver.due(1, "addVariable", 0, 100);
        solver.due(2, "addVariable", 0, 100);
        solver.say("a+b+c>=10", "mina+b+c");
        solver.point(0, 1, 0, 1, 10, 1);
        solver.say("c<=3");
        solver.point(0, 1, 7, 1, 3, 1);
        solver.say("b<=2");
        solver.point(5, 1, 2, 1, 3, 1);
        solver.due(3, "setNumber", 1, 9);
        solver.point(0, 1, 1, 1, 9, 1);
        solver.say("maxb");
        solver.point(0, 1, 2, 1, 8, 1);
        solver.say("maxa");
        solver.point(8, 1, 2, 1, 0, 1);
    }

    private static void promise25() {
        Solver solver = solver(25);
        solver.due(Solver.INDEX, "isTight", 0);
        solver.due(0, "addVariable", 0, 100);
        solver.say("maxa", "3a<=10", "a<=4", "a>=1", "6a<=20", "a-a<=0");
        boolean[] due = {true, false, false, true, true};
        for (int row = 0; row < 5; row++) {
            solver.due(due[row], "isTight", row);
        }
        solver.due(Solver.INDEX, "isTight", 5);
        solver.due(Solver.INDEX, "isTight", -1);
        solver.due(4, "dropRow", 1);
        solver.due(Solver.STATE, "isTight", 1);
        solver.due(3, "dropRow", 0);
        solver.due(2, "dropRow", 3);
        solver.due('u', "state");
        solver.due(Solver.NO_ELEMENT, "isTight", 2);
        solver.due(Solver.STATE, "isTight", 0);
        solver.due(Solver.INDEX, "isTight", 5);
        solver.due(0, "setNumber", 4, -1);
        solver.due('i', "state");
        solver.due(Solver.NO_ELEMENT, "isTight", 2);
    }

    private static void promise26() {
        Solver solver = solver(26);
        solver.due(0, "tight");
        solver.due(0, "addVariable", 3, 3);
        solver.due(2, "tight");
        solver.due(1, "addVariable", 3, 100);
        solver.due(3, "tight");
        solver.say("a+b=6", "a-b>=0", "a<=9");
        solver.due(5, "tight");
        solver.due(2, "dropRow", 1);
        solver.due(4, "tight");
        solver.due(100, "setGreatest", 1, 3);
        solver.due(5, "tight");
        solver.due(3, "setLeast", 1, 2);
        solver.due(4, "tight");
        solver.due(3, "setGreatest", 1, 100);
        solver.due(3, "tight");
        solver.due(1, "dropRow", 0);
        solver.say("maxb");
        solver.due(Solver.NO_ELEMENT, "tight");
        solver.say("b<=1");
        solver.due(Solver.NO_ELEMENT, "tight");
    }

    private static void promise27() {
        Solver solver = solver(27);
        solver.due(true, "isProved");
        solver.due(0, "addVariable", -2, 100);
        solver.due(1, "addVariable", -50, 7);
        solver.due(true, "isProved");
        solver.say("maxa-b");
        solver.due('u', "state");
        solver.due(true, "isProved");
        solver.say("a-2b<=9", "3a+2b<=30");
        solver.due('o', "state");
        solver.due(true, "isProved");
        solver.say("min5a");
        solver.due(true, "isProved");
        solver.say("a-b=40", "a+b=9");
        solver.due('i', "state");
        solver.due(true, "isProved");
        solver.due(2, "dropAims");
        solver.due(true, "isProved");
    }
}
