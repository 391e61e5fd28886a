import java.lang.management.ManagementFactory;

/**
 * The dearest runs of 512 calls: they must make few objects and end soon. The room holds 7.3 million
 * fields and elements, and what the dearest call makes is counted for every call: so all rows are made
 * with the object, a tenth of the room at most (as bytes of four to an element), and a call makes none.
 */
public final class RoomTest {
    private static final Checks CHECKS = new Checks("RoomTest");
    private static final long BYTES_MOST = 2_900_000;
    // The calls make nothing; this leaves room for what Java may make on its own.
    private static final long CALLS_BYTES_MOST = 600;
    private static final long SECONDS_MOST = 60;
    private static final com.sun.management.ThreadMXBean THREADS =
        (com.sun.management.ThreadMXBean) ManagementFactory.getThreadMXBean();

    private RoomTest() { }

    public static void main(String[] args) {
        allStates();
        newObject();
        long[] circuit = packed(everything("never 0;"));
        long[] lamps = packed(everything("lamp 0=at 0 or at 5;lamp 1=h;"));
        long[] law = packed("far*2+load*load-stops+(toward and not idle)+time*car");
        // The first time Java makes things of its own (it loads classes): only the second one is measured.
        for (int n = 0; n < 2; n++) {
            boolean measured = n == 1;
            manyCircuits(circuit, measured);
            manyTests(lamps, measured);
            manyBests(measured);
            manyRuns(law, measured);
            manyFaults(measured);
            CHECKS.yes("a call of each kind", everyCall(circuit, measured));
        }
        CHECKS.end();
    }

    private static long made() {
        return THREADS.getThreadAllocatedBytes(Thread.currentThread().getId());
    }

    private static void newObject() {
        new OldLift();
        long madeAhead = made();
        OldLift lift = new OldLift();
        long bytes = made() - madeAhead;
        System.out.println("RoomTest: a new object made " + bytes + " bytes");
        CHECKS.yes("a new object: room", bytes < BYTES_MOST && lift.count(0) == 4);
    }

    private static void ended(String run, boolean measured, long madeAhead, long timeAhead) {
        long bytes = made() - madeAhead;
        long seconds = (System.nanoTime() - timeAhead) / 1_000_000_000;
        CHECKS.yes(run + ": time", seconds < SECONDS_MOST);
        if (measured) {
            System.out.println("RoomTest: calls of " + run + " made " + bytes + " bytes in " + seconds + " s");
            CHECKS.yes(run + ": room", bytes <= CALLS_BYTES_MOST);
        }
    }

    /** All 3,072 states: the relays shift and turn by the buttons, the car goes anywhere. */
    private static String everything(String last) {
        return "relay a=call 0 or h;relay b=a;relay c=b;relay d=c;relay e=d;relay f=e;relay g=f;relay h=g and not call 1;"
            + "up=call 2;down=call 3;door=call 4;" + last;
    }

    private static void feed(OldLift lift, long[] packed) {
        for (int i = 0; i < packed.length; i += 3) {
            lift.feed(packed[i], packed[i + 1], packed[i + 2]);
        }
    }

    private static long[] packed(String text) {
        long[] row = new long[(text.length() + 23) / 24 * 3];
        for (int i = 0; i < row.length; i++) {
            row[i] = Texts.eight(text, 8 * i);
        }
        return row;
    }

    private static void allStates() {
        OldLift lift = new OldLift();
        lift.floors(6);
        Texts.feed(lift, everything(""));
        CHECKS.due("circuit", lift.circuit(), 0);
        CHECKS.due("reached", lift.count(2), 3072);
    }

    private static void manyCircuits(long[] text, boolean measured) {
        OldLift lift = new OldLift();
        long madeAhead = made();
        long timeAhead = System.nanoTime();
        lift.floors(6);
        int calls = 1;
        while (calls + text.length / 3 + 9 <= 512) {
            feed(lift, text);
            lift.circuit();
            lift.never(0, 1);
            for (int floor = 0; floor < 6; floor++) {
                lift.forgets(floor, 60, 1);
            }
            lift.stuck(0);
            calls += text.length / 3 + 9;
        }
        ended("many circuits", measured, madeAhead, timeAhead);
    }

    private static void manyTests(long[] text, boolean measured) {
        OldLift lift = new OldLift();
        long madeAhead = made();
        long timeAhead = System.nanoTime();
        lift.floors(6);
        feed(lift, text);
        lift.circuit();
        for (int calls = 20; calls < 510; calls += 2) {
            lift.stuck(calls / 2 % 4);
            lift.tests(0);
        }
        ended("many tests", measured, madeAhead, timeAhead);
    }

    private static void manyBests(boolean measured) {
        OldLift lift = new OldLift();
        long madeAhead = made();
        long timeAhead = System.nanoTime();
        lift.floors(6);
        lift.cars(2, 1, 9, 3);
        for (int i = 0; i < 8; i++) {
            lift.person(300 - i, i % 2 * 5, 5 - i % 2 * 5);
        }
        for (int calls = 10; calls < 510; calls += 2) {
            lift.cars(2, 1 + calls / 2 % 8, 9, 3);
            lift.best(calls % 3, 0);
        }
        ended("many bests", measured, madeAhead, timeAhead);
    }

    private static void manyRuns(long[] law, boolean measured) {
        OldLift lift = new OldLift();
        long madeAhead = made();
        long timeAhead = System.nanoTime();
        lift.floors(6);
        feed(lift, law);
        lift.rule();
        lift.cars(2, 1, 9, 3);
        for (int i = 0; i < 24; i++) {
            lift.person(300 - i, i % 2 * 5, 5 - i % 2 * 5);
        }
        for (int calls = 40; calls < 510; calls += 2) {
            lift.fire(800 + calls % 100);
            lift.rode(calls % 24, 2);
        }
        ended("many runs", measured, madeAhead, timeAhead);
    }

    /** Texts that fail at their first sign, in both languages. */
    private static void manyFaults(boolean measured) {
        OldLift lift = new OldLift();
        long madeAhead = made();
        long timeAhead = System.nanoTime();
        for (int calls = 0; calls < 510; calls += 2) {
            lift.feed(-1L >>> 1, 0x3F3F3F3F3F3F3F3FL, calls);
            if (calls % 4 == 0) {
                lift.circuit();
            } else {
                lift.rule();
            }
        }
        ended("many faults", measured, madeAhead, timeAhead);
    }

    /** Every call of the face, each with all small numbers in turn. */
    private static boolean everyCall(long[] text, boolean measured) {
        OldLift lift = new OldLift();
        long madeAhead = made();
        long timeAhead = System.nanoTime();
        long answers = 0;
        lift.floors(6);
        feed(lift, text);
        answers += lift.circuit();
        for (int n = -1; n < 6; n++) {
            answers += relayCalls(lift, n);
            answers += carCalls(lift, n);
            answers += ropeCalls(lift, n);
        }
        lift.nobody();
        ended("every kind", measured, madeAhead, timeAhead);
        return answers != 0;
    }

    private static long relayCalls(OldLift lift, int n) {
        long answers = lift.press(n) + lift.never(0, n) + lift.neverRow(0, n) + lift.forgets(n, 9, 1)
            + lift.forgetsRow(n, 9, 0) + lift.stuck(0) + lift.tests(n) + lift.tried(n, 0) + lift.thought(n)
            + lift.count(n);
        return answers + (n < 0 ? 0 : lift.look(n)) + (lift.again() ? 1 : 0);
    }

    private static long carCalls(OldLift lift, int n) {
        boolean told = lift.cars(1 + n % 2, 2, 1, n) | lift.hold(4, n, 3) | lift.fire(n);
        long answers = lift.person(n, n, 5 - n) + lift.run() + lift.rode(0, n) + lift.waits(n) + lift.moved(n, 0)
            + lift.stopped(n) + lift.best(n, 0) + lift.rule();
        return answers + (told ? 1 : 0);
    }

    private static long ropeCalls(OldLift lift, int n) {
        boolean told = lift.trip(n, 5 - n, 7) | lift.gauge(n, 9);
        return lift.rope(n, 0) + lift.rope(0, n) + lift.first(n) + lift.lasts(n, 0) + (told ? 1 : 0);
    }
}
