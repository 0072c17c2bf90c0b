import java.util.ArrayList;
import java.util.List;
import java.util.Map;
import java.util.TreeMap;

/** Long runs of calls, each judged by the model. The runs are the same each time. */
public final class OracleTest {
    private static final int CALLS = 512;

    private long seed;
    private final List<String> log = new ArrayList<>();
    private Tableaufloor solver;
    private Model model;
    private int left;
    private int wrong;
    private final Map<String, Integer> seen = new TreeMap<>();

    public static void main(String[] args) {
        int runs = args.length > 0 ? Integer.parseInt(args[0]) : 1500;
        int from = args.length > 1 ? Integer.parseInt(args[1]) : 1;
        OracleTest test = new OracleTest();
        for (int i = from; i < from + runs && test.wrong < 5; i++) {
            test.run(i);
            test.runDense(i);
        }
        if (args.length > 0) {
            System.out.println(test.seen);
        }
        test.demandVariety();
        System.out.println("OracleTest: " + runs + " runs, " + test.wrong + " wrong answers");
        if (test.wrong != 0) {
            System.exit(1);
        }
    }

    /** A run that never meets a case proves nothing about it. */
    private void demandVariety() {
        for (String name : new String[] {"state 111", "state 105", "state 117", "open 0", "open 1",
            "open 2", "fault 115", "fault 118", "fault 114", "fault 45", "kept 120", "kept 102",
            "kept 98", "kept 45", "brokenBy -3", "brokenBy -2", "brokenBy -1", "brokenBy 0",
            "brokenBy 1", "isTight 0", "isTight 1", "isProved 1", "wholeAt exception",
            "worthTop exception", "conflict exception", "tell exception", "brokenBy exception"}) {
            if (!seen.containsKey(name)) {
                System.out.println("never seen: " + name);
                wrong++;
            }
        }
    }

    private int random(int bound) {
        seed = seed * 6364136223846793005L + 1442695040888963407L;
        return (int) ((seed >>> 33) % bound);
    }

    private void run(int number) {
        seed = number * 7919L + 13;
        random(2);
        solver = new Tableaufloor();
        model = new Model();
        log.clear();
        // What is told can't be taken back for ever: short runs have more of the beginnings.
        left = random(4) == 0 ? CALLS : 100 + random(150);
        int style = random(4);
        while (left > 0) {
            change(style);
            for (int i = random(12); i > 0 && left > 0; i--) {
                ask();
            }
        }
    }

    /** Many rows and aims with large coefficients, so that fractions and degenerate bases come. */
    private void runDense(int number) {
        seed = number * 104729L + 7;
        random(2);
        solver = new Tableaufloor();
        model = new Model();
        log.clear();
        left = CALLS;
        int variables = 1 + random(5) % 3;
        int most = random(3) == 0 ? 3 : 10;
        boolean isNarrow = random(2) == 0;
        for (int i = 0; i < variables; i++) {
            int least = random(2) == 0 ? 0 : random(13) - 6;
            call("addVariable", least, isNarrow ? least + random(7)
                    : random(3) > 0 ? 100 : least + random(30));
        }
        for (int i = 1 + random(6); i > 0; i--) {
            String[] relations = {"<=", "<=", "<=", ">=", ">=", "="};
            say(sum(variables, most) + relations[random(6)] + (random(60) - 15));
        }
        for (int i = random(4); i > 0; i--) {
            say((random(2) == 0 ? "max" : "min") + sum(variables, random(2) == 0 ? 2 : most));
        }
        while (left > 0) {
            askAll(variables);
            call("setNumber", random(model.rowCount()), random(60) - 20);
            if (random(4) == 0) {
                call("dropRow", random(model.rowCount()), 0);
            }
            if (random(5) == 0) {
                call("setGreatest", random(variables), random(30));
            }
            if (random(5) == 0) {
                call("setLeast", random(variables), random(20) - 15);
            }
        }
    }

    private String sum(int variables, int most) {
        StringBuilder sum = new StringBuilder();
        for (int i = 0; i < variables; i++) {
            boolean isLess = random(3) == 0;
            sum.append(isLess ? "-" : i > 0 ? "+" : "").append(random(most));
            sum.append((char) ('a' + i));
        }
        return sum.toString();
    }

    private void say(String words) {
        for (int i = 0; i < words.length(); i++) {
            call("type", words.charAt(i), 0);
        }
        call("tell", 0, 0);
    }

    private void askAll(int variables) {
        for (String name : new String[] {"state", "open", "tight", "isProved", "conflict",
            "tightShare"}) {
            call(name, 0, 0);
        }
        for (int i = 0; i < variables; i++) {
            call("pointTop", i, 0);
            call("pointBottom", i, 0);
            call("wholeAt", i, 0);
        }
        for (int i = 0; i < 3; i++) {
            call("valueTop", i, 0);
            call("valueBottom", i, 0);
            call("topByPoints", i, 0);
            call("wholeValue", i, 0);
        }
        for (int i = 0; i < model.rowCount(); i++) {
            call("isTight", i, 0);
            call("worthTop", i, 0);
            call("worthBottom", i, 0);
        }
        int snapshot = random(4);
        call("kept", snapshot, 0);
        call("brokenBy", snapshot, 0);
        call("keep", random(4), 0);
    }

    private void change(int style) {
        int kind = random(20);
        if (random(2) == 0 && (Long) model.call("state", 0, 0) == 'i') {
            call("dropRow", random(model.rowCount()), 0);
            return;
        }
        if (kind < 1 || (kind < 8 && model.variableCount() == 0)
                || (kind < 4 && model.variableCount() < 2)) {
            int least = style == 0 ? random(7) - 3 : style == 1 ? 0 : random(101) - 50;
            int greatest = random(2) == 0 ? 100 : least + random(style == 0 ? 7 : 120);
            call("addVariable", least, greatest);
        } else if (kind < 3) {
            call("setLeast", random(4) - random(2), random(12) == 0 ? wild() : random(30) - 15);
        } else if (kind < 6) {
            call("setGreatest", random(4) - random(2), random(12) == 0 ? wild()
                    : random(5) == 0 ? 100 : random(20) - 5);
        } else if (kind < 13) {
            typeAndTell(style);
        } else if (kind < 14) {
            call("dropAims", 0, 0);
        } else if (kind < 16 && random(3) > 0) {
            call("dropRow", random(model.rowCount() + 1), 0);
        } else if (kind < 19) {
            call("setNumber", random(model.rowCount() + 1),
                    random(10) == 0 ? wild() : random(60) - 20);
        } else {
            call("keep", random(4), 0);
        }
    }

    private int wild() {
        int[] wild = {Integer.MIN_VALUE, Integer.MAX_VALUE, -1, 0, 1, 3, 4, 6, 12, 30, 49, 50, 51,
            -50, -51, 99, 100, 101, -99, -100, 65536, 13, 2, 5};
        return wild[random(wild.length)];
    }

    private void ask() {
        String name = Calls.NAMES[random(Calls.NAMES.length)];
        if (name.equals("addVariable") || name.startsWith("set") || name.startsWith("drop")
                || name.equals("type") || name.equals("erase") || name.equals("tell")) {
            name = random(2) == 0 ? "state" : "isProved";
        }
        int first = random(15) == 0 ? wild() : random(4);
        if (name.startsWith("worth") || name.startsWith("line") || name.equals("isTight")) {
            first = random(model.rowCount() + 1);
        }
        call(name, first, random(15) == 0 ? wild() : random(15));
    }

    private void typeAndTell(int style) {
        if (!model.typed().isEmpty()) {
            call("erase", 0, 0);
        }
        StringBuilder text = new StringBuilder();
        boolean isAim = random(3) == 0;
        if (isAim) {
            text.append(random(2) == 0 ? "max" : "min");
        }
        int terms = 1 + random(random(6) == 0 ? 9 : isAim ? 2 : 3);
        for (int i = 0; i < terms; i++) {
            text.append(random(2) == 0 ? "-" : i > 0 ? "+" : "");
            text.append(random(3) == 0 ? "" : (char) ('0' + random(style == 2 ? 10 : 4)));
            int letters = Math.max(1, model.variableCount()) + (random(25) == 0 ? 1 : 0);
            text.append((char) ('a' + random(Math.min(3, letters))));
        }
        if (!isAim) {
            String[] relations = {"<=", "<=", ">=", ">=", "="};
            int relation = random(5);
            boolean isLess = random(4) == 0 ? random(2) == 0 : relation == 2 || relation == 3;
            text.append(relations[relation]);
            text.append(isLess ? "-" : "").append(random(style == 0 ? 12 : 100));
        }
        if (random(7) == 0) {
            String signs = "abcdmaxinz0123456789+-<>==-<>";
            int at = random(text.length() + 1);
            text.insert(at, signs.charAt(random(signs.length())));
        }
        if (random(9) == 0) {
            text.deleteCharAt(random(text.length()));
        }
        for (int i = 0; i < text.length(); i++) {
            call("type", text.charAt(i), 0);
        }
        if (random(6) == 0) {
            call("type", random(300), 0);
        }
        call("fault", 0, 0);
        call("faultAt", 0, 0);
        call("tell", 0, 0);
    }

    private void call(String name, int first, int second) {
        if (left == 0) {
            return;
        }
        left--;
        Object due = model.call(name, first, second);
        Object got = Calls.call(solver, name, first, second);
        seen.merge(name + " " + (due instanceof Class ? "exception" : due), 1, Integer::sum);
        log.add(name + "(" + first + ", " + second + ") -> " + due);
        if (!due.equals(got)) {
            wrong++;
            left = 0;
            System.out.println("wrong: " + name + "(" + first + ", " + second + ") answered "
                    + got + ", due is " + due + ", behind:");
            log.forEach(System.out::println);
        }
    }
}
