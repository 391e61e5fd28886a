import java.lang.management.ManagementFactory;

/**
 * The dearest runs of 512 calls: they must make few objects and end soon. The room holds 7.3 million
 * fields and elements; here a run may make a tenth of that, counted as bytes of four to an element.
 */
public final class RoomTest {
    private static final Checks CHECKS = new Checks("RoomTest");
    private static final long BYTES_MOST = 2_900_000;
    private static final long SECONDS_MOST = 60;

    private RoomTest() { }

    public static void main(String[] args) {
        allStates();
        manyCircuits();
        manyTests();
        manyBests();
        manyRuns();
        CHECKS.end();
    }

    private static com.sun.management.ThreadMXBean threads() {
        return (com.sun.management.ThreadMXBean) ManagementFactory.getThreadMXBean();
    }

    private static long made() {
        return threads().getThreadAllocatedBytes(Thread.currentThread().getId());
    }

    private static void ended(String run, long madeAhead, long timeAhead) {
        long bytes = made() - madeAhead;
        long seconds = (System.nanoTime() - timeAhead) / 1_000_000_000;
        System.out.println("RoomTest: " + run + " made " + bytes + " bytes in " + seconds + " s");
        CHECKS.yes(run + ": room", bytes < BYTES_MOST);
        CHECKS.yes(run + ": time", seconds < SECONDS_MOST);
    }

    /** All 3,072 states: the relays shift and turn by the buttons, the car goes anywhere. */
    private static String everything(String last) {
        return "relay a=call 0 or h;relay b=a;relay c=b;relay d=c;relay e=d;relay f=e;relay g=f;relay h=g and not call 1;"
            + "up=call 2;down=call 3;door=call 4;" + last;
    }

    private static void feed(OldLift lift, long[] packed) {
        for (int i = 0; i < packed.length; i += 3) {
            lift.feed(packed[i], packed[i + 1], packed[i + 2]);
        }
    }

    private static long[] packed(String text) {
        long[] row = new long[(text.length() + 23) / 24 * 3];
        for (int i = 0; i < row.length; i++) {
            row[i] = Texts.eight(text, 8 * i);
        }
        return row;
    }

    private static void allStates() {
        OldLift lift = new OldLift();
        lift.floors(6);
        Texts.feed(lift, everything(""));
        CHECKS.due("circuit", lift.circuit(), 0);
        CHECKS.due("reached", lift.count(2), 3072);
    }

    private static void manyCircuits() {
        long[] text = packed(everything("never 0;"));
        long madeAhead = made();
        long timeAhead = System.nanoTime();
        OldLift lift = new OldLift();
        lift.floors(6);
        int calls = 1;
        while (calls + text.length / 3 + 9 <= 512) {
            feed(lift, text);
            lift.circuit();
            lift.never(0, 1);
            for (int floor = 0; floor < 6; floor++) {
                lift.forgets(floor, 60, 1);
            }
            lift.stuck(0);
            calls += text.length / 3 + 9;
        }
        ended("many circuits", madeAhead, timeAhead);
    }

    private static void manyTests() {
        long[] text = packed(everything("lamp 0=at 0 or at 5;lamp 1=h;"));
        long madeAhead = made();
        long timeAhead = System.nanoTime();
        OldLift lift = new OldLift();
        lift.floors(6);
        feed(lift, text);
        lift.circuit();
        for (int calls = 20; calls < 510; calls += 2) {
            lift.stuck(calls / 2 % 4);
            lift.tests(0);
        }
        ended("many tests", madeAhead, timeAhead);
    }

    private static void manyBests() {
        long madeAhead = made();
        long timeAhead = System.nanoTime();
        OldLift lift = new OldLift();
        lift.floors(6);
        lift.cars(2, 1, 9, 3);
        for (int i = 0; i < 8; i++) {
            lift.person(300 - i, i % 2 * 5, 5 - i % 2 * 5);
        }
        for (int calls = 10; calls < 510; calls += 2) {
            lift.cars(2, 1 + calls / 2 % 8, 9, 3);
            lift.best(calls % 3, 0);
        }
        ended("many bests", madeAhead, timeAhead);
    }

    private static void manyRuns() {
        long madeAhead = made();
        long timeAhead = System.nanoTime();
        OldLift lift = new OldLift();
        lift.floors(6);
        lift.cars(2, 1, 9, 3);
        for (int i = 0; i < 24; i++) {
            lift.person(300 - i, i % 2 * 5, 5 - i % 2 * 5);
        }
        for (int calls = 26; calls < 510; calls += 2) {
            lift.fire(800 + calls % 100);
            lift.rode(calls % 24, 2);
        }
        ended("many runs", madeAhead, timeAhead);
    }
}
