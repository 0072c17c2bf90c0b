import java.lang.management.ManagementFactory;

/** What calls make: all objects of a run live in one room, so a call makes next to none. */
public final class RoomTest {
    private static final int CALLS = 512;
    private static final int BYTES_OF_A_SOLVER = 20_000;
    private static final int BYTES_OF_A_CALL = 64;

    private RoomTest() { }

    public static void main(String[] args) {
        Checks checks = new Checks();
        checks.about("the room of a run");
        long unused = work(new Tableaufloor());
        long before = allocated();
        Tableaufloor solver = new Tableaufloor();
        long made = allocated() - before;
        checks.isTrue("a solver is small: " + made, made <= BYTES_OF_A_SOLVER);
        before = allocated();
        unused += work(solver);
        made = allocated() - before;
        checks.isTrue("calls make next to nothing: " + made, made <= CALLS * BYTES_OF_A_CALL);
        checks.isTrue("the calls were made", unused != 0);
        checks.end("RoomTest");
    }

    private static long allocated() {
        return ((com.sun.management.ThreadMXBean) ManagementFactory.getThreadMXBean())
                .getCurrentThreadAllocatedBytes();
    }

    /** Makes the dearest calls, none of which throws. */
    private static long work(Tableaufloor solver) {
        for (int i = 0; i < 3; i++) {
            solver.addVariable(-3, 3);
        }
        String[] texts = {"3a+2b-c<=7", "a-5b+2c>=-9", "7a+3b+2c<=11", "a+b+c=1", "2a-b<=4",
            "9a-9b+7c<=8", "max3a+b-c", "min2a-b", "maxc"};
        for (String words : texts) {
            for (int i = 0; i < words.length(); i++) {
                solver.type(words.charAt(i));
            }
            solver.tell();
        }
        long sum = 0;
        for (int i = 0; i < 24; i++) {
            solver.setNumber(i % 3, i % 3 == 1 ? -9 - i % 2 : 7 + i % 2);
            sum += solver.state() + solver.valueTop(0) + solver.topByPoints(2)
                    + solver.pointTop(1) + solver.tight() + (solver.isProved() ? 1 : 0)
                    + solver.worthTop(0) + solver.wholeAt(0) + solver.wholeValue(1)
                    + solver.keep(i % 4) + solver.kept(1) + solver.lineLength(0)
                    + solver.lineAt(3, 2) + solver.fault() + (long) solver.tightShare();
        }
        return sum;
    }
}
