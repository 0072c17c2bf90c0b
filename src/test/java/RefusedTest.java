import java.util.ArrayList;
import java.util.Arrays;
import java.util.List;
import java.util.Set;

/**
 * In each of some situations, all calls with many arguments: a refused call throws what the model
 * throws and changes nothing, and a call that only asks changes nothing either.
 */
public final class RefusedTest {
    private static final int[] FIRST = {Integer.MIN_VALUE, -51, -1, 0, 1, 2, 3, 4, 6, 11, 12, 51,
        Integer.MAX_VALUE};
    private static final int[] SECOND = {Integer.MIN_VALUE, -100, -51, -1, 0, 5, 50, 51, 99, 100,
        101, Integer.MAX_VALUE};
    private static final Set<String> WITH_TWO = Set.of("addVariable", "setLeast", "setGreatest",
            "setNumber", "coefficient", "lineAt");
    private static final Set<String> WITHOUT = Set.of("erase", "fault", "faultAt", "isAim", "tell",
            "dropAims", "state", "open", "tight", "isProved", "conflict", "tightShare");
    private static final Set<String> CHANGES = Set.of("addVariable", "setLeast", "setGreatest",
            "type", "erase", "tell", "dropRow", "setNumber", "dropAims", "keep");
    private static final Checks CHECKS = new Checks();

    private final List<Call> log = new ArrayList<>();

    private RefusedTest() { }

    public static void main(String[] args) {
        nothing().tryAll("nothing there");
        full().tryAll("full");
        open().tryAll("an open aim");
        none().tryAll("no point fits");
        dropped().tryAll("all rows dropped");
        unwhole().tryAll("no whole point");
        CHECKS.end("RefusedTest");
    }

    private static RefusedTest nothing() {
        return new RefusedTest();
    }

    private static RefusedTest full() {
        RefusedTest full = new RefusedTest();
        full.make("keep", 3);
        full.make("addVariable", 0, 100);
        full.make("keep", 2);
        full.make("addVariable", -3, 3);
        full.make("addVariable", 2, 50);
        for (int i = 0; i < 6; i++) {
            full.say("a=1");
            full.make("dropRow", i);
        }
        full.say("3a+2b<=17", "b-c<=1", "a+c>=4", "5a<=20", "c<=9", "0a=0", "max3a+b", "mina",
                "minc");
        full.make("keep", 0);
        full.make("setNumber", 9, 19);
        full.make("keep", 1);
        full.type("a+a+a+a+a+a+a+a+a+a+a+a+a+a<=9");
        return full;
    }

    private static RefusedTest open() {
        RefusedTest open = new RefusedTest();
        open.make("addVariable", 0, 100);
        open.make("addVariable", -5, 100);
        open.make("keep", 0);
        open.say("a-b<=3", "2a<=7", "a>=1", "maxa", "maxb", "mina");
        open.make("dropRow", 2);
        open.type("9a-c");
        return open;
    }

    private static RefusedTest none() {
        RefusedTest none = new RefusedTest();
        none.make("addVariable", 0, 6);
        none.make("addVariable", 1, 4);
        none.make("keep", 1);
        none.say("a+b<=3", "a>=2", "b>=2", "a=9");
        none.make("dropRow", 3);
        none.type("a<=1");
        return none;
    }

    private static RefusedTest dropped() {
        RefusedTest dropped = new RefusedTest();
        dropped.make("addVariable", -9, 5);
        dropped.say("a<=3", "maxa", "a>=3");
        dropped.make("dropRow", 1);
        dropped.make("keep", 0);
        dropped.make("addVariable", 0, 100);
        dropped.make("keep", 2);
        dropped.make("dropRow", 0);
        dropped.type("mina");
        return dropped;
    }

    private static RefusedTest unwhole() {
        RefusedTest unwhole = new RefusedTest();
        unwhole.make("addVariable", 0, 6);
        unwhole.make("addVariable", 0, 6);
        unwhole.make("addVariable", 0, 0);
        unwhole.say("2a+4b=7", "max2b");
        unwhole.make("keep", 3);
        unwhole.type("9a+a<=1");
        return unwhole;
    }

    private void make(String name, int... arguments) {
        log.add(Call.of(name, arguments));
    }

    private void type(String words) {
        for (int i = 0; i < words.length(); i++) {
            make("type", words.charAt(i));
        }
    }

    private void say(String... texts) {
        for (String words : texts) {
            type(words);
            make("tell");
        }
    }

    private void tryAll(String situation) {
        CHECKS.about(situation);
        Model model = new Model();
        for (Call call : log) {
            CHECKS.isTrue(call + " is taken ahead of it",
                    !(model.call(call.name(), call.first(), call.second()) instanceof Class));
        }
        List<List<String>> before = Arrays.asList(Portrait.of(log, null, false),
                Portrait.of(log, null, true));
        for (String name : Calls.NAMES) {
            for (int first : WITHOUT.contains(name) ? new int[] {0}
                    : name.equals("type") ? characters() : FIRST) {
                for (int second : WITH_TWO.contains(name) ? SECOND : new int[] {0}) {
                    tryOne(new Call(name, first, second), before);
                }
            }
        }
    }

    private static int[] characters() {
        return new int[] {'a', 'z', '0', '=', 'A', ' ', '*', '`', '{', 0, 255, 65535};
    }

    private void tryOne(Call call, List<List<String>> before) {
        Model model = new Model();
        Tableaufloor solver = new Tableaufloor();
        for (Call earlier : log) {
            model.call(earlier.name(), earlier.first(), earlier.second());
            earlier.on(solver);
        }
        Object due = model.call(call.name(), call.first(), call.second());
        CHECKS.due(call.toString(), due, call.on(solver));
        if (due instanceof Class || !CHANGES.contains(call.name())) {
            for (int warmth = 0; warmth < 2; warmth++) {
                CHECKS.due(call + " changes nothing", before.get(warmth),
                        Portrait.of(log, call, warmth == 1));
            }
        }
    }
}
