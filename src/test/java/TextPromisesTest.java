/** Promises 1 to 17: variables, texts, rows and aims, and how a row is written. */
public final class TextPromisesTest {
    private static final int LOWEST = Integer.MIN_VALUE;
    private static final int HIGHEST = Integer.MAX_VALUE;
    private static final Checks CHECKS = new Checks();

    private TextPromisesTest() { }

    public static void main(String[] args) {
        promise1();
        promise2();
        promise3();
        promise4();
        promise5();
        promise6();
        promise7And8();
        promise7And8WithoutVariables();
        promise9();
        promise10();
        promise10Limits();
        promise11();
        promise12();
        promise13();
        promise14();
        promise15();
        promise16And17();
        CHECKS.end("TextPromisesTest");
    }

    private static Solver solver(int promise) {
        CHECKS.about("promise " + promise);
        return new Solver(CHECKS);
    }

    private static void promise1() {
        Solver solver = solver(1);
        solver.due('o', "state");
        solver.due(0, "tight");
        solver.due(true, "isProved");
        solver.due(0, "erase");
        solver.due(0, "dropAims");
        solver.due('s', "fault");
        solver.due(0, "faultAt");
        solver.due(false, "isAim");
        solver.due(Solver.UNSUPPORTED, "tell");
        solver.due(Solver.INDEX, "relation", 0);
        solver.due(Solver.INDEX, "valueTop", 0);
        solver.due(Solver.INDEX, "pointTop", 0);
        solver.due(Solver.INDEX, "wholeAt", 0);
        solver.due(Solver.INDEX, "wholeValue", 0);
        solver.due(Solver.STATE, "conflict");
        solver.due(Solver.NO_ELEMENT, "open");
        solver.due(Solver.NO_ELEMENT, "tightShare");
        for (int i = 0; i < 4; i++) {
            solver.due('-', "kept", i);
        }
    }

    private static void promise2() {
        Solver solver = solver(2);
        for (int[] wrong : new int[][] {{-51, 0}, {51, 60}, {0, 101}, {1, 0}, {50, 49}, {0, -1},
            {LOWEST, 0}, {HIGHEST, HIGHEST}, {0, LOWEST}, {0, HIGHEST}, {-51, 200}}) {
            solver.due(Solver.ARGUMENT, "addVariable", wrong);
        }
        solver.due(Solver.INDEX, "pointTop", 0);
        solver.due(0, "addVariable", -50, -50);
        solver.due(1, "addVariable", 50, 50);
        solver.due(2, "addVariable", 0, 100);
        solver.point(-50, 1, 50, 1, 0, 1);
        solver.due(Solver.STATE, "addVariable", 0, 0);
        solver.due(Solver.ARGUMENT, "addVariable", 0, 101);
        solver.due(Solver.INDEX, "pointTop", 3);
        solver.due(5, "tight");
    }

    private static void promise3() {
        Solver solver = solver(3);
        solver.due(Solver.INDEX, "setLeast", 0, 0);
        solver.due(0, "addVariable", 0, 100);
        solver.due(1, "addVariable", -4, 7);
        solver.due(Solver.INDEX, "setLeast", 2, 99);
        solver.due(Solver.INDEX, "setLeast", -1, 0);
        solver.due(Solver.INDEX, "setLeast", LOWEST, LOWEST);
        solver.due(Solver.ARGUMENT, "setLeast", 0, 51);
        solver.due(Solver.ARGUMENT, "setLeast", 0, -51);
        solver.due(Solver.ARGUMENT, "setLeast", 1, 8);
        solver.due(Solver.ARGUMENT, "setLeast", 1, HIGHEST);
        solver.point(0, 1, -4, 1);
        solver.due(0, "setLeast", 0, 50);
        solver.due(50, "setLeast", 0, -50);
        solver.due(-4, "setLeast", 1, 7);
        solver.due(7, "setLeast", 1, 7);
        solver.point(-50, 1, 7, 1);
    }

    private static void promise4() {
        Solver solver = solver(4);
        solver.due(Solver.INDEX, "setGreatest", 0, 0);
        solver.due(0, "addVariable", 3, 100);
        solver.due(Solver.INDEX, "setGreatest", 1, 101);
        solver.due(Solver.INDEX, "setGreatest", -1, 5);
        solver.due(Solver.ARGUMENT, "setGreatest", 0, 2);
        solver.due(Solver.ARGUMENT, "setGreatest", 0, 101);
        solver.due(Solver.ARGUMENT, "setGreatest", 0, HIGHEST);
        solver.due(Solver.ARGUMENT, "setGreatest", 0, LOWEST);
        solver.say("maxa");
        solver.due('u', "state");
        solver.due(100, "setGreatest", 0, 99);
        solver.value(0, 99, 1);
        solver.due(99, "setGreatest", 0, 3);
        solver.value(0, 3, 1);
        solver.due(2, "tight");
        solver.due(3, "setGreatest", 0, 100);
        solver.due('u', "state");
    }

    private static void promise5() {
        Solver solver = solver(5);
        for (char wrong : new char[] {' ', 'A', 'Z', '_', '`', '{', '*', ',', '.', '/', ':', ';',
            '?', 0, 127, 255, 256, 'a' + 256, 65535}) {
            solver.due(Solver.ARGUMENT, "type", wrong);
        }
        String right = "az09+-<>=mkq";
        for (int i = 0; i < 30; i++) {
            solver.due(i + 1, "type", right.charAt(i % right.length()));
        }
        solver.due(Solver.STATE, "type", 'a');
        solver.due(Solver.ARGUMENT, "type", 'A');
        solver.due(30, "erase");
        solver.due(1, "type", 'a');
    }

    private static void promise6() {
        Solver solver = solver(6);
        solver.due(0, "erase");
        solver.type("max");
        solver.due(3, "erase");
        solver.due(false, "isAim");
        solver.due(0, "erase");
        solver.due(0, "faultAt");
    }

    private static void promise7And8() {
        CHECKS.about("promises 7 and 8");
        for (String right : new String[] {"a<=1", "-a>=-12", "0a+9b-3a=99", "a-b+a-b<=05",
            "9a+9a-9a=-0", "maxa", "min-b", "max2a-0b", "a+a+a+a+a+a+a+a+a+a-a+a-a=7",
            "5a+5a-a<=1", "-9a>=0"}) {
            fault(right, '-', 0);
        }
        String[] early = {"", "a", "-", "2", "a+", "a-", "a+3", "a<", "a>", "a<=", "a=", "a=-", "m",
            "ma", "mi", "max", "min", "max-", "max3", "maxa+", "mina-2", "9a+9a"};
        for (String words : early) {
            fault(words, 's', words.length());
        }
        fault("+a<=1", 's', 0);
        fault("x", 's', 0);
        fault("<=1", 's', 0);
        fault("--a<=1", 's', 1);
        fault("22a<=1", 's', 1);
        fault("a+-b<=1", 's', 2);
        fault("ab<=1", 's', 1);
        fault("ac<=1", 's', 1);
        fault("a2b<=1", 's', 1);
        fault("d<=1", 's', 0);
        fault("a<1", 's', 2);
        fault("a<>1", 's', 2);
        fault("a==1", 's', 2);
        fault("a=<1", 's', 2);
        fault("a<=+1", 's', 3);
        fault("a<=--1", 's', 4);
        fault("a<=123", 's', 5);
        fault("a<=1a", 's', 4);
        fault("a<=b", 's', 3);
        fault("a<=c", 's', 3);
        fault("mb", 's', 1);
        fault("mc", 's', 1);
        fault("main", 's', 2);
        fault("mix", 's', 2);
        fault("max+a", 's', 3);
        fault("maxa<=1", 's', 4);
        fault("max2", 's', 4);
        fault("amaxb", 's', 1);
        fault("c<=1", 'v', 0);
        fault("a-3c", 'v', 3);
        fault("maxc", 'v', 3);
        fault("c+x", 'v', 0);
        fault("x+c", 's', 0);
        fault("9a+a+c<=1", 'v', 5);
        fault("9a+a<=x", 's', 6);
        fault("9a+a<=1", 'r', 7);
        fault("-9a-a<=1", 'r', 8);
        fault("b-5a-5a<=12", 'r', 11);
        fault("max9b+9b", 'r', 8);
        Solver solver = new Solver(CHECKS, 0, 100, 0, 100);
        solver.type("a+c=1");
        solver.due('v', "fault");
        solver.due(2, "faultAt");
        solver.due(2, "addVariable", 0, 0);
        solver.due('-', "fault");
        solver.due(Solver.NO_ELEMENT, "faultAt");
        solver.due(0, "tell");
    }

    private static void fault(String words, char kind, int place) {
        new Solver(CHECKS, 0, 100, 0, 100).fault(words, kind, place);
    }

    private static void promise7And8WithoutVariables() {
        Solver solver = solver(8);
        solver.fault("a<=1", 'v', 0);
        solver.fault("-2b", 'v', 2);
        solver.fault("maxa", 'v', 3);
        solver.fault("5", 's', 1);
        solver.fault("aaa", 'v', 0);
        solver.fault("+aa", 's', 0);
        String full = "a+a+a+a+a+a+a+a+a+a+a+a+a+a+a+";
        solver.due(0, "addVariable", 0, 0);
        solver.fault(full, 's', 30);
        solver.fault(full.substring(0, 27) + "<=1", 'r', 30);
    }

    private static void promise9() {
        Solver solver = solver(9);
        solver.due(false, "isAim");
        solver.type("m");
        solver.due(true, "isAim");
        solver.type("zz<");
        solver.due(true, "isAim");
        solver.due(4, "erase");
        solver.due(false, "isAim");
        solver.type("am");
        solver.due(false, "isAim");
    }

    private static void promise10() {
        Solver solver = solver(10);
        solver.due(0, "addVariable", 0, 100);
        solver.type("a<=");
        solver.due(Solver.UNSUPPORTED, "tell");
        solver.type("5");
        solver.due(0, "tell");
        solver.due(0, "erase");
        solver.due(Solver.UNSUPPORTED, "tell");
        solver.type("maxa");
        solver.due(0, "tell");
        solver.due(0, "erase");
        solver.value(0, 5, 1);
        solver.type("min-2a");
        solver.due(1, "tell");
        solver.value(1, -10, 1);
        solver.type("a>=-3");
        solver.due(1, "tell");
        solver.due(-3, "setNumber", 1, -3);
    }

    private static void promise10Limits() {
        Solver solver = solver(10);
        solver.due(0, "addVariable", 0, 100);
        solver.say("a<=1", "a<=2", "a<=3", "a<=4", "a<=5", "a<=6");
        solver.type("a<=7");
        solver.due(Solver.STATE, "tell");
        solver.due('-', "fault");
        solver.due(5, "dropRow", 3);
        solver.due(6, "tell");
        for (int i = 7; i < 12; i++) {
            solver.due(5, "dropRow", i - 1);
            solver.type("a<=9");
            solver.due(i, "tell");
        }
        solver.due(5, "dropRow", 0);
        solver.type("a<=9");
        solver.due(Solver.STATE, "tell");
        solver.type("9");
        solver.due(Solver.STATE, "tell");
        solver.type("9");
        solver.due(Solver.UNSUPPORTED, "tell");
        solver.due(6, "erase");
        solver.say("maxa", "mina", "maxa-a");
        solver.type("maxa");
        solver.due(Solver.STATE, "tell");
        solver.type("a");
        solver.due(Solver.UNSUPPORTED, "tell");
        solver.due(5, "erase");
        solver.due(Solver.INDEX, "valueTop", 3);
        solver.due(Solver.INDEX, "relation", 12);
        solver.value(0, 2, 1);
        solver.value(2, 0, 1);
    }

    private static void promise11() {
        Solver solver = solver(11);
        solver.due(Solver.INDEX, "dropRow", 0);
        solver.due(0, "addVariable", 0, 100);
        solver.say("maxa", "a<=5", "a<=7");
        solver.due(Solver.INDEX, "dropRow", 2);
        solver.due(Solver.INDEX, "dropRow", -1);
        solver.due(Solver.INDEX, "dropRow", HIGHEST);
        solver.value(0, 5, 1);
        solver.due(1, "dropRow", 0);
        solver.value(0, 7, 1);
        solver.due(Solver.STATE, "dropRow", 0);
        solver.due(0, "dropRow", 1);
        solver.due('u', "state");
        solver.due(Solver.STATE, "dropRow", 1);
        solver.say("a<=9");
        solver.due('<', "relation", 2);
        solver.due(0, "dropRow", 2);
    }

    private static void promise12() {
        Solver solver = solver(12);
        solver.due(Solver.INDEX, "setNumber", 0, 0);
        solver.due(0, "addVariable", 0, 100);
        solver.say("maxa", "a<=5");
        solver.due(Solver.INDEX, "setNumber", 1, 500);
        solver.due(Solver.INDEX, "setNumber", -1, 5);
        solver.due(Solver.ARGUMENT, "setNumber", 0, 100);
        solver.due(Solver.ARGUMENT, "setNumber", 0, -100);
        solver.due(Solver.ARGUMENT, "setNumber", 0, LOWEST);
        solver.due(Solver.ARGUMENT, "setNumber", 0, HIGHEST);
        solver.value(0, 5, 1);
        solver.due(5, "setNumber", 0, 99);
        solver.value(0, 99, 1);
        solver.due(99, "setNumber", 0, -99);
        solver.due('i', "state");
        solver.due(-99, "setNumber", 0, 0);
        solver.value(0, 0, 1);
        solver.due(0, "dropRow", 0);
        solver.due(Solver.STATE, "setNumber", 0, 4);
        solver.due(Solver.ARGUMENT, "setNumber", 0, 100);
        solver.line(0, "a<=0");
    }

    private static void promise13() {
        Solver solver = solver(13);
        solver.due(0, "dropAims");
        solver.due(0, "addVariable", 0, 100);
        solver.say("maxa", "mina");
        solver.due('u', "state");
        solver.due(2, "dropAims");
        solver.due('o', "state");
        solver.due(0, "dropAims");
        solver.due(Solver.INDEX, "valueTop", 0);
        solver.type("mina");
        solver.due(0, "tell");
        solver.value(0, 0, 1);
        solver.due(Solver.INDEX, "valueTop", 1);
    }

    private static void promise14() {
        Solver solver = solver(14);
        solver.due(Solver.INDEX, "coefficient", 0, 0);
        solver.due(0, "addVariable", 0, 100);
        solver.due(1, "addVariable", 0, 100);
        solver.say("3a-9b-a-a-a<=5", "b+8b=1", "a-a>=0");
        int[][] due = {{0, -9}, {0, 9}, {0, 0}};
        for (int row = 0; row < 3; row++) {
            solver.due(due[row][0], "coefficient", row, 0);
            solver.due(due[row][1], "coefficient", row, 1);
            solver.due(Solver.INDEX, "coefficient", row, 2);
            solver.due(Solver.INDEX, "coefficient", row, -1);
        }
        solver.due(Solver.INDEX, "coefficient", 3, 0);
        solver.due(Solver.INDEX, "coefficient", -1, 0);
        solver.due(Solver.INDEX, "coefficient", HIGHEST, LOWEST);
        solver.due(2, "addVariable", 0, 100);
        solver.due(0, "coefficient", 0, 2);
        solver.due(2, "dropRow", 1);
        solver.due(9, "coefficient", 1, 1);
        solver.due(Solver.INDEX, "coefficient", 0, 3);
    }

    private static void promise15() {
        Solver solver = solver(15);
        solver.due(Solver.INDEX, "relation", 0);
        solver.due(0, "addVariable", 0, 100);
        solver.say("a<=5", "a>=1", "a=2");
        solver.due('<', "relation", 0);
        solver.due('>', "relation", 1);
        solver.due('=', "relation", 2);
        solver.due(2, "dropRow", 1);
        solver.due('>', "relation", 1);
        solver.due(Solver.INDEX, "relation", 3);
        solver.due(Solver.INDEX, "relation", -1);
    }

    private static void promise16And17() {
        Solver solver = solver(16);
        solver.due(Solver.INDEX, "lineLength", 0);
        solver.due(Solver.INDEX, "lineAt", 0, 0);
        for (int i = 0; i < 3; i++) {
            solver.due(i, "addVariable", 0, 100);
        }
        solver.say("1a+2b-c<=07", "-a-0b+c>=-00", "a-a=-5", "-9c-8b-7a<=-99", "b+b+b=10",
            "c+b>=99");
        String[] due = {"a+2b-c<=7", "-a+c>=0", "0=-5", "-7a-8b-9c<=-99", "3b=10", "b+c>=99"};
        for (int i = 0; i < due.length; i++) {
            solver.line(i, due[i]);
        }
        solver.due(10, "setNumber", 4, -9);
        solver.line(4, "3b=-9");
        solver.due(5, "dropRow", 4);
        solver.line(4, "3b=-9");
        CHECKS.about("promise 17");
        solver.due(Solver.INDEX, "lineAt", 6, 0);
        solver.due(Solver.INDEX, "lineAt", -1, 0);
        solver.due(Solver.INDEX, "lineAt", 0, HIGHEST);
        solver.due(Solver.INDEX, "lineAt", 0, LOWEST);
        solver.due(Solver.INDEX, "lineLength", 6);
        solver.due(Solver.INDEX, "lineLength", -1);
    }
}
