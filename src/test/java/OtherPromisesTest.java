/** Promises 28 to 36: worth, conflicts, whole points, snapshots. */
public final class OtherPromisesTest {
    private static final int LOWEST = Integer.MIN_VALUE;
    private static final int HIGHEST = Integer.MAX_VALUE;
    private static final Checks CHECKS = new Checks();

    private OtherPromisesTest() { }

    public static void main(String[] args) {
        promise28And29();
        promise28Exceptions();
        promise28NowOrThen();
        promise30();
        promise31And32();
        promise31Width();
        promise31Exceptions();
        promise33();
        promise34();
        promise34States();
        promise35();
        promise36();
        CHECKS.end("OtherPromisesTest");
    }

    private static Solver solver(int promise) {
        CHECKS.about("promise " + promise);
        return new Solver(CHECKS);
    }

    private static void promise28And29() {
        Solver solver = solver(28);
        solver.due(0, "addVariable", 0, 100);
        solver.due(1, "addVariable", 0, 100);
        solver.say("2a+b<=10", "a+3b<=15", "a<=99", "max3a+4b", "mina");
        solver.worth(0, 1, 1);
        solver.worth(1, 1, 1);
        solver.worth(2, 0, 1);
        solver.due(2, "dropAims");
        solver.say("max5a-b");
        solver.worth(0, 5, 2);
        solver.worth(1, 0, 1);
        solver.due(1, "dropAims");
        solver.say("min-7a", "maxb");
        solver.worth(0, -7, 2);
        // The number may go beyond what can be typed.
        solver.due(10, "setNumber", 0, 99);
        solver.due(15, "setNumber", 1, 99);
        solver.due(99, "setNumber", 2, 40);
        solver.worth(2, -7, 1);
        solver.worth(0, 0, 1);
        solver.due(40, "setNumber", 2, 99);
        solver.worth(0, -7, 2);
    }

    private static void promise28Exceptions() {
        Solver solver = solver(28);
        solver.due(0, "addVariable", 0, 100);
        for (String part : new String[] {"worthTop", "worthBottom"}) {
            solver.due(Solver.INDEX, part, 0);
        }
        solver.say("a<=3", "a>=0");
        for (String part : new String[] {"worthTop", "worthBottom"}) {
            solver.due(Solver.STATE, part, 0);
            solver.due(Solver.INDEX, part, 2);
            solver.due(Solver.INDEX, part, -1);
        }
        solver.say("maxa");
        solver.worth(0, 1, 1);
        solver.due(1, "dropRow", 0);
        for (String part : new String[] {"worthTop", "worthBottom"}) {
            solver.due(Solver.STATE, part, 0);
            solver.due(Solver.NO_ELEMENT, part, 1);
            solver.due(Solver.INDEX, part, HIGHEST);
        }
    }

    private static void promise28NowOrThen() {
        Solver solver = solver(29);
        solver.due(0, "addVariable", 0, 3);
        solver.due(1, "addVariable", 0, 100);
        solver.say("maxa", "maxb", "a>=3");
        solver.due(1, "open");
        // The first aim has a best value now, but none if the row was 1 greater.
        solver.due(Solver.NO_ELEMENT, "worthTop", 0);
        solver.due(3, "setNumber", 0, 2);
        solver.worth(0, 0, 1);
        solver.due(2, "setNumber", 0, 4);
        solver.due(Solver.NO_ELEMENT, "worthTop", 0);
        // None now, but one then.
        solver.due(0, "dropRow", 0);
        solver.say("a<=-1");
        solver.due(Solver.NO_ELEMENT, "worthBottom", 1);
        solver.due(-1, "setNumber", 1, 0);
        solver.worth(1, 1, 1);
        solver.say("a-a=0");
        solver.due(Solver.NO_ELEMENT, "worthTop", 2);
        solver.worth(1, 1, 1);
    }

    private static void promise30() {
        Solver solver = solver(30);
        solver.due(Solver.STATE, "conflict");
        solver.due(0, "addVariable", 0, 5);
        solver.due(1, "addVariable", 0, 9);
        solver.say("a+b>=8");
        solver.due(Solver.STATE, "conflict");
        solver.say("a<=2", "a<=1", "b<=4", "b=3");
        // Row 1 is left out first, as row 2 is enough; then row 3, as row 4 is.
        solver.due(1 + 4 + 16, "conflict");
        solver.due(4, "dropRow", 2);
        solver.due(1 + 2 + 16, "conflict");
        solver.due(3, "dropRow", 4);
        solver.due(1 + 2 + 8, "conflict");
        solver.say("a>=6");
        solver.due(32, "conflict");
        solver.due(8, "setNumber", 0, 15);
        solver.due(32, "conflict");
        solver.due(6, "setNumber", 5, 0);
        solver.due(1, "conflict");
        solver.say("maxa");
        solver.due(1, "conflict");
        solver.due(3, "dropRow", 0);
        solver.due(Solver.STATE, "conflict");
        solver.say("0a=1");
        solver.due(64, "conflict");
    }

    private static void promise31And32() {
        Solver solver = solver(31);
        solver.due(0, "addVariable", -2, 4);
        solver.due(1, "addVariable", 0, 6);
        solver.due(-2, "wholeAt", 0);
        solver.due(0, "wholeAt", 1);
        solver.say("2a+2b<=9", "maxa+b");
        solver.value(0, 9, 2);
        solver.due(4, "wholeValue", 0);
        solver.due(-2, "wholeAt", 0);
        solver.due(6, "wholeAt", 1);
        solver.say("maxa");
        solver.due(4, "wholeAt", 0);
        solver.due(0, "wholeAt", 1);
        solver.due(4, "wholeValue", 1);
        solver.say("min2b-3a");
        solver.due(-12, "wholeValue", 2);
        solver.due(3, "dropAims");
        solver.say("min3a-2b");
        solver.due(-18, "wholeValue", 0);
        solver.say("a-b=1");
        solver.due(1, "wholeAt", 0);
        solver.due(0, "wholeAt", 1);
        solver.say("a+b>=2");
        solver.due(2, "wholeAt", 0);
        solver.due(1, "wholeAt", 1);
        solver.due(4, "wholeValue", 0);
    }

    private static void promise31Width() {
        Solver solver = solver(31);
        solver.due(0, "addVariable", -50, -44);
        solver.due(-50, "wholeAt", 0);
        solver.due(-44, "setGreatest", 0, -43);
        solver.due(Solver.UNSUPPORTED, "wholeAt", 0);
        solver.due(-50, "setLeast", 0, -49);
        solver.due(-49, "wholeAt", 0);
        solver.due(1, "addVariable", 50, 100);
        solver.due(Solver.UNSUPPORTED, "wholeAt", 0);
        solver.due(100, "setGreatest", 1, 56);
        solver.due(50, "wholeAt", 1);
        solver.say("max-a+b");
        solver.due(105, "wholeValue", 0);
    }

    private static void promise31Exceptions() {
        Solver solver = solver(32);
        solver.due(Solver.INDEX, "wholeAt", 0);
        solver.due(Solver.INDEX, "wholeValue", 0);
        solver.due(0, "addVariable", 0, 3);
        solver.say("2a=3", "maxa");
        solver.due('o', "state");
        solver.due(Solver.NO_ELEMENT, "wholeAt", 0);
        solver.due(Solver.NO_ELEMENT, "wholeValue", 0);
        solver.due(Solver.INDEX, "wholeAt", 1);
        solver.due(Solver.INDEX, "wholeValue", 1);
        solver.due(Solver.INDEX, "wholeAt", LOWEST);
        solver.due(Solver.INDEX, "wholeValue", -1);
        solver.due(1, "addVariable", 0, 7);
        solver.due(Solver.UNSUPPORTED, "wholeAt", 0);
        solver.due(Solver.UNSUPPORTED, "wholeValue", 0);
        solver.due(Solver.INDEX, "wholeAt", 2);
        solver.due(Solver.INDEX, "wholeValue", 1);
        solver.due(7, "setGreatest", 1, 6);
        solver.due(3, "setNumber", 0, 4);
        solver.due(2, "wholeAt", 0);
        solver.due(2, "wholeValue", 0);
    }

    private static void promise33() {
        Solver solver = solver(33);
        solver.due(Solver.ARGUMENT, "keep", 4);
        solver.due(Solver.ARGUMENT, "keep", -1);
        solver.due('-', "keep", 0);
        solver.due('b', "keep", 0);
        solver.due(0, "addVariable", 0, 100);
        solver.due('x', "keep", 0);
        solver.due('b', "kept", 0);
        solver.due('-', "kept", 1);
        solver.say("maxa", "3a<=10");
        solver.due('f', "keep", 0);
        solver.due('b', "keep", 0);
        solver.due(10, "setNumber", 0, 9);
        solver.due('-', "keep", 3);
        solver.due('x', "keep", 0);
        solver.due(9, "setNumber", 0, -1);
        solver.due(Solver.NO_ELEMENT, "keep", 0);
        solver.due(Solver.NO_ELEMENT, "keep", 1);
        solver.due(Solver.ARGUMENT, "keep", 4);
        solver.due(0, "dropRow", 0);
        solver.due(Solver.NO_ELEMENT, "keep", 0);
        solver.due(Solver.ARGUMENT, "keep", LOWEST);
        solver.due('-', "kept", 1);
        solver.due(1, "dropAims");
        solver.due('f', "keep", 0);
        solver.due('b', "kept", 0);
    }

    private static void promise34() {
        Solver solver = solver(34);
        solver.due('-', "keep", 2);
        solver.due('b', "kept", 2);
        solver.due(0, "addVariable", 0, 9);
        solver.due('x', "kept", 2);
        solver.due('-', "kept", 0);
        solver.due(Solver.ARGUMENT, "kept", 4);
        solver.due(Solver.ARGUMENT, "kept", -1);
        solver.due(Solver.ARGUMENT, "kept", HIGHEST);
    }

    private static void promise34States() {
        Solver solver = solver(34);
        solver.due(0, "addVariable", 0, 100);
        solver.due(1, "addVariable", 0, 100);
        solver.say("3a+2b<=7", "maxa");
        solver.due('-', "keep", 1);
        solver.due('b', "kept", 1);
        solver.say("maxb");
        solver.due('b', "kept", 1);
        solver.due(2, "dropAims");
        solver.due('f', "kept", 1);
        solver.say("3a=7");
        solver.due('b', "kept", 1);
        solver.due(7, "setNumber", 1, 6);
        solver.due('x', "kept", 1);
        solver.due(1, "dropRow", 1);
        solver.due(0, "dropRow", 0);
        solver.say("maxb");
        solver.due('u', "state");
        solver.due('f', "kept", 1);
        solver.say("a<=-1");
        solver.due('i', "state");
        solver.due('x', "kept", 1);
    }

    private static void promise35() {
        Solver solver = solver(35);
        solver.due(Solver.ARGUMENT, "brokenBy", 4);
        solver.due(Solver.ARGUMENT, "brokenBy", -1);
        solver.due(Solver.NO_ELEMENT, "brokenBy", 0);
        solver.due('-', "keep", 3);
        solver.due(Solver.NO_ELEMENT, "brokenBy", 3);
        for (int i = 0; i < 3; i++) {
            solver.due(i, "addVariable", 5, 100);
            solver.due(Solver.UNSUPPORTED, "brokenBy", 3);
        }
        solver.say("a<=99", "b<=99", "c=5");
        solver.due('-', "keep", 0);
        solver.due(Solver.NO_ELEMENT, "brokenBy", 0);
        solver.due(99, "setNumber", 0, 4);
        solver.due(0, "brokenBy", 0);
        solver.due(99, "setNumber", 1, 4);
        solver.due(0, "brokenBy", 0);
        solver.due(2, "dropRow", 0);
        solver.due(1, "brokenBy", 0);
        solver.due(1, "dropRow", 1);
        solver.due(5, "setNumber", 2, 6);
        solver.due(2, "brokenBy", 0);
        solver.due(5, "setLeast", 2, 6);
        solver.due(-1, "brokenBy", 0);
        solver.due(5, "setLeast", 1, 0);
        solver.due(-1, "brokenBy", 0);
        solver.due(100, "setGreatest", 1, 4);
        solver.due(-2, "brokenBy", 0);
        solver.due(5, "setLeast", 0, 6);
        solver.due(-3, "brokenBy", 0);
        solver.due(Solver.NO_ELEMENT, "brokenBy", 1);
        solver.due(Solver.UNSUPPORTED, "brokenBy", 3);
        solver.due(Solver.ARGUMENT, "brokenBy", LOWEST);
    }

    private static void promise36() {
        Solver solver = solver(36);
        solver.due(Solver.NO_ELEMENT, "tightShare");
        solver.due(0, "addVariable", 0, 100);
        solver.due(Solver.NO_ELEMENT, "tightShare");
        solver.say("a>=1", "a<=5", "a<=7");
        solver.due(1f / 3f, "tightShare");
        solver.due(2, "dropRow", 2);
        solver.due(0.5f, "tightShare");
        solver.due(1, "setNumber", 0, -1);
        solver.due(0f, "tightShare");
        solver.say("maxa");
        solver.due(0.5f, "tightShare");
        solver.due(1, "dropRow", 0);
        solver.due(1f, "tightShare");
        solver.due(5, "setNumber", 1, -1);
        solver.due(Solver.NO_ELEMENT, "tightShare");
        solver.due(0, "dropRow", 1);
        solver.due(Solver.NO_ELEMENT, "tightShare");
        solver.due(1, "dropAims");
        solver.due(Solver.NO_ELEMENT, "tightShare");
    }
}
