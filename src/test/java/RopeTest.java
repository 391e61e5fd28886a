/** Promises 28 to 32: trip, gauge, rope, first, lasts. */
public final class RopeTest {
    private static final Checks CHECKS = new Checks("RopeTest");
    private static final int NONE = OldLift.NONE;
    private static final int LOW = Integer.MIN_VALUE;
    private static final int HIGH = Integer.MAX_VALUE;

    private RopeTest() { }

    public static void main(String[] args) {
        trip();
        gauge();
        bends();
        worn();
        first();
        lasts();
        CHECKS.end();
    }

    private static void trip() {
        OldLift lift = new OldLift();
        int[][] wrong = {{0, 0, 1}, {-1, 1, 1}, {4, 1, 1}, {1, -1, 1}, {1, 4, 1}, {0, 1, 0}, {0, 1, 10000},
            {LOW, 1, 1}, {HIGH, 1, 1}, {0, LOW, 1}, {0, HIGH, 1}, {0, 1, LOW}, {0, 1, HIGH}};
        for (int[] row : wrong) {
            CHECKS.no("trip", lift.trip(row[0], row[1], row[2]));
        }
        CHECKS.due("none", lift.count(6), 0);
        for (int i = 0; i < 40; i++) {
            CHECKS.yes("trip " + i, lift.trip(i % 2 * 3, 3 - i % 2 * 3, i % 2 == 0 ? 9999 : 1));
        }
        CHECKS.no("a 41st", lift.trip(0, 1, 1));
        CHECKS.due("40", lift.count(6), 40);
        CHECKS.due("all bends", lift.rope(2, 1), 20 * 10000);
    }

    private static void gauge() {
        OldLift lift = new OldLift();
        int[][] wrong = {{0, -1}, {0, 51}, {1, 0}, {1, 1000000}, {2, 0}, {2, 10000}, {-1, 5}, {3, 5}, {0, LOW},
            {1, LOW}, {2, HIGH}, {LOW, 5}, {HIGH, 5}};
        for (int[] row : wrong) {
            CHECKS.no("gauge", lift.gauge(row[0], row[1]));
        }
        lift.trip(0, 1, 100);
        CHECKS.due("slip is 0 still", lift.rope(0, 1), 100);
        CHECKS.due("life 1000 and one day still", lift.lasts(0, 0), 9);
        int[][] right = {{0, 0}, {0, 50}, {1, 1}, {1, 999999}, {2, 1}, {2, 9999}};
        for (int[] row : right) {
            CHECKS.yes("gauge", lift.gauge(row[0], row[1]));
        }
        CHECKS.due("slip 50", lift.rope(0, 1), 150);
        CHECKS.due("the most days", lift.lasts(0, 1), (999999L - 50) * 9999 / 50);
    }

    private static void bends() {
        OldLift lift = new OldLift();
        lift.floors(6);
        lift.trip(1, 4, 10);
        lift.trip(5, 3, 200);
        long[] parts = {0, 10, 10, 210, 200};
        for (int part = 0; part < 5; part++) {
            CHECKS.due("least of " + part, lift.rope(part, 0), parts[part]);
            CHECKS.due("most of " + part, lift.rope(part, 1), parts[part]);
        }
        lift.gauge(0, 15);
        // 15 of 100 of 10 is 1 (cut), of 200 it is 30: each line is cut by itself.
        CHECKS.due("least", lift.rope(3, 0), 9 + 170);
        CHECKS.due("most", lift.rope(3, 1), 11 + 230);
        CHECKS.due("a part of one line", lift.rope(1, 0), 9);
        for (int wrong : new int[] {-1, 5, LOW, HIGH}) {
            CHECKS.due("no such part", lift.rope(wrong, 0), NONE);
            CHECKS.due("no such what", lift.rope(0, wrong), NONE);
        }
        CHECKS.due("no such what", lift.rope(0, 3), NONE);
    }

    private static void worn() {
        OldLift lift = new OldLift();
        lift.trip(0, 1, 100);
        lift.gauge(0, 10);
        long[][] lives = {{89, 2}, {90, 2}, {91, 1}, {110, 1}, {111, 0}};
        for (long[] life : lives) {
            lift.gauge(1, (int) life[0]);
            CHECKS.due("worn by " + life[0], lift.rope(0, 2), life[1]);
        }
        CHECKS.due("a part that no trip passes", lift.rope(1, 2), 0);
    }

    private static void first() {
        OldLift lift = new OldLift();
        CHECKS.due("all alike", lift.first(0), 7);
        CHECKS.due("all alike", lift.first(1), 7);
        lift.trip(0, 1, 100);
        lift.trip(1, 2, 100);
        CHECKS.due("two alike", lift.first(0), 3);
        CHECKS.due("two alike", lift.first(1), 3);
        lift.gauge(0, 10);
        CHECKS.due("each of the two may", lift.first(0), 3);
        CHECKS.due("none must", lift.first(1), 0);
        lift.trip(2, 3, 81);
        CHECKS.due("89 is below 90", lift.first(0), 3);
        lift.trip(2, 3, 1);
        CHECKS.due("90 may be as many", lift.first(0), 7);
        lift.trip(0, 2, 1000);
        CHECKS.due("the same line for both tells nothing", lift.first(0), 3);
        CHECKS.due("none of the two must", lift.first(1), 0);
        lift.trip(1, 2, 23);
        CHECKS.due("111 to 135 against 90 to 110", lift.first(1), 2);
        CHECKS.due("may", lift.first(0), 2);
        for (int what : new int[] {-1, 2, LOW, HIGH}) {
            CHECKS.due("another what", lift.first(what), NONE);
        }
        OldLift small = new OldLift();
        small.floors(2);
        CHECKS.due("one part", small.first(1), 1);
    }

    private static void lasts() {
        OldLift lift = new OldLift();
        CHECKS.due("no bends", lift.lasts(0, 0), NONE);
        CHECKS.due("no bends", lift.lasts(0, 1), NONE);
        lift.trip(0, 1, 100);
        lift.gauge(0, 10);
        lift.gauge(2, 7);
        CHECKS.due("fewest", lift.lasts(0, 0), 890 * 7 / 110);
        CHECKS.due("most", lift.lasts(0, 1), 910 * 7 / 90);
        CHECKS.due("no bends of this part", lift.lasts(1, 0), NONE);
        lift.gauge(1, 100);
        CHECKS.due("0 at least", lift.lasts(0, 0), 0);
        CHECKS.due("cut to 0", lift.lasts(0, 1), 0);
        lift.gauge(1, 103);
        CHECKS.due("cut to 1", lift.lasts(0, 1), 1);
        for (int wrong : new int[] {-1, 3, LOW, HIGH}) {
            CHECKS.due("no such part", lift.lasts(wrong, 0), NONE);
            CHECKS.due("no such what", lift.lasts(0, wrong), NONE);
        }
        CHECKS.due("no such what", lift.lasts(0, 2), NONE);
        lift.floors(4);
        lift.trip(0, 1, 1);
        lift.gauge(0, 50);
        lift.gauge(1, 999999);
        lift.gauge(2, 9999);
        CHECKS.due("beyond an int", lift.lasts(0, 0), 999998L * 9999);
    }
}
