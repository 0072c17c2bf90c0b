import java.util.ArrayList;
import java.util.List;

/**
 * All that can be seen of a solver: the answers of many calls, on copies that have gone through
 * the same calls. Some calls change a copy, so that what is hidden in it comes out.
 */
final class Portrait {
    private static final int MOST_CALLS = 512;
    private static final int PROBES = 9;

    private final List<String> answers = new ArrayList<>();
    private Tableaufloor copy;
    private int calls;

    /** The last call may be null; with warmth, the copy is asked for its answers ahead of it. */
    static List<String> of(List<Call> calls, Call last, boolean isWarm) {
        Portrait portrait = new Portrait();
        for (int probe = 0; probe < PROBES; probe++) {
            portrait.begin(calls, last, isWarm);
            portrait.probe(probe);
        }
        return portrait.answers;
    }

    private void begin(List<Call> log, Call last, boolean isWarm) {
        copy = new Tableaufloor();
        calls = 0;
        for (Call call : log) {
            make(call);
        }
        if (isWarm) {
            warm();
        }
        if (last != null) {
            make(last);
        }
    }

    private void warm() {
        for (String name : new String[] {"state", "topByPoints", "wholeAt", "worthTop", "conflict",
            "fault", "lineLength", "kept", "isProved"}) {
            make(Call.of(name));
        }
    }

    private void probe(int probe) {
        switch (probe) {
            case 0: lookAtRows(); break;
            case 1: lookAtPoint(); break;
            case 2: ask("tell"); lookAtRows(); lookAtPoint(); break;
            case 3: goOn("1"); break;
            case 4: goOn("a<=2"); break;
            case 5: ask("erase"); ask("dropAims"); lookAtPoint(); break;
            case 6: ask("addVariable", 0, 5); lookAtPoint(); break;
            case 7: lookAtBounds(); break;
            default: lookAtSnapshots();
        }
    }

    /** Shows a text that can't be told by how it goes on. */
    private void goOn(String words) {
        for (int i = 0; i < words.length(); i++) {
            ask("type", words.charAt(i));
            ask("fault");
            ask("faultAt");
            ask("isAim");
        }
        ask("tell");
        lookAtPoint();
    }

    private void lookAtRows() {
        ask("fault");
        ask("faultAt");
        ask("isAim");
        for (int row = 0; row < 13; row++) {
            ask("relation", row);
            Object length = ask("lineLength", row);
            for (int i = 0; length instanceof Long && i <= (Long) length; i++) {
                ask("lineAt", row, i);
            }
            for (int variable = 0; variable < 4; variable++) {
                ask("coefficient", row, variable);
            }
        }
    }

    private void lookAtPoint() {
        for (String name : new String[] {"state", "open", "tight", "isProved", "conflict",
            "tightShare"}) {
            ask(name);
        }
        for (int i = 0; i < 4; i++) {
            for (String name : new String[] {"pointTop", "pointBottom", "wholeAt", "valueTop",
                "valueBottom", "topByPoints", "wholeValue", "kept", "brokenBy"}) {
                ask(name, i);
            }
        }
        for (int row = 0; row < 13; row++) {
            ask("isTight", row);
            ask("worthTop", row);
            ask("worthBottom", row);
        }
    }

    private void lookAtBounds() {
        for (int i = 0; i < 4; i++) {
            ask("setGreatest", i, 100);
            ask("setLeast", i, -50);
        }
        for (int row = 0; row < 13; row++) {
            ask("setNumber", row, 1);
        }
        for (int row = 0; row < 13; row++) {
            ask("dropRow", row);
        }
    }

    private void lookAtSnapshots() {
        for (int i = 0; i < 4; i++) {
            ask("keep", i);
            ask("kept", i);
        }
    }

    private Object ask(String name, int... arguments) {
        Call call = Call.of(name, arguments);
        Object answer = make(call);
        answers.add(call + " -> " + answer);
        return answer;
    }

    private Object make(Call call) {
        calls++;
        if (calls > MOST_CALLS) {
            throw new IllegalStateException("more calls of one object than are promised");
        }
        return call.on(copy);
    }
}
