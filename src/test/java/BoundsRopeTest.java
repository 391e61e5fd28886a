/** The bounds of promises 28 to 32, the rope: a test for each sentence that names one. */
public final class BoundsRopeTest {
    private static final Checks CHECKS = new Checks("BoundsRopeTest");
    private static final int NONE = OldLift.NONE;
    private static final int LOW = Integer.MIN_VALUE;
    private static final int HIGH = Integer.MAX_VALUE;

    private BoundsRopeTest() { }

    public static void main(String[] args) {
        fortyLines();
        floorsOfTrips();
        numbersOfTrips();
        passes();
        slips();
        lives();
        days();
        otherGauges();
        bothCut();
        worn();
        partsOfRope();
        mayAndMust();
        firstOfNone();
        lasts();
        zeroAtLeast();
        withoutBends();
        CHECKS.end();
    }

    private static void fortyLines() {
        CHECKS.by("TRIPS, 40 lines at most");
        OldLift lift = new OldLift();
        for (int i = 1; i <= 40; i++) {
            CHECKS.no("one that is refused takes no line", lift.trip(2, 2, 1));
            CHECKS.yes("line " + i, lift.trip(0, 3, 9999));
            CHECKS.due("lines", lift.count(6), i);
            CHECKS.due("bends", lift.rope(2, 0), 9999 * i);
        }
        CHECKS.by("TRIPS: true; false: others, 40 are there.");
        for (int i = 0; i < 3; i++) {
            CHECKS.no("a 41st", lift.trip(0, 3, 1));
            CHECKS.due("lines", lift.count(6), 40);
            CHECKS.due("bends", lift.rope(2, 0), 399960);
        }
        lift.gauge(0, 50);
        CHECKS.due("least", lift.rope(0, 0), 40 * 5000);
        CHECKS.due("most", lift.rope(0, 1), 40 * 14998);
        lift.nobody();
        CHECKS.due("nobody leaves them", lift.count(6), 40);
        lift.floors(4);
        CHECKS.yes("room again", lift.trip(0, 3, 1));
    }

    private static void floorsOfTrips() {
        CHECKS.by("from a FLOOR to another one");
        for (int floors = 2; floors <= 6; floors++) {
            OldLift lift = new OldLift();
            lift.floors(floors);
            for (int floor : new int[] {LOW, -1, floors, 6, HIGH}) {
                CHECKS.no("from " + floor, lift.trip(floor, 0, 1));
                CHECKS.no("to " + floor, lift.trip(0, floor, 1));
                CHECKS.no("from and to " + floor, lift.trip(floor, floor, 1));
            }
            for (int floor = 0; floor < floors; floor++) {
                CHECKS.no("to itself", lift.trip(floor, floor, 1));
            }
            CHECKS.due("none", lift.count(6), 0);
            CHECKS.yes("to the top", lift.trip(0, floors - 1, 1));
            CHECKS.yes("from the top", lift.trip(floors - 1, floors - 2, 1));
            CHECKS.due("two", lift.count(6), 2);
        }
    }

    private static void numbersOfTrips() {
        CHECKS.by("n times (1 to 9999)");
        OldLift lift = new OldLift();
        for (int n : new int[] {LOW, -1, 0, 10000, 10001, HIGH}) {
            CHECKS.no("n " + n, lift.trip(0, 1, n));
        }
        CHECKS.due("none", lift.count(6), 0);
        int sum = 0;
        for (int n : new int[] {1, 2, 9998, 9999}) {
            CHECKS.yes("n " + n, lift.trip(0, 1, n));
            sum += n;
            CHECKS.due("bends", lift.rope(0, 0), sum);
        }
    }

    private static void passes() {
        CHECKS.by("PART s (0 to F - 2) bends each time the CAR passes between the FLOORS s and s + 1.");
        for (int from = 0; from < 6; from++) {
            for (int to = 0; to < 6; to++) {
                OldLift lift = new OldLift();
                lift.floors(6);
                CHECKS.due("trip", lift.trip(from, to, 7) ? 1 : 0, from == to ? 0 : 1);
                for (int part = 0; part < 5; part++) {
                    boolean between = Math.min(from, to) <= part && Math.max(from, to) >= part + 1;
                    CHECKS.due("part " + part, lift.rope(part, 0), between ? 7 : 0);
                    CHECKS.due("part " + part, lift.rope(part, 1), between ? 7 : 0);
                }
            }
        }
    }

    private static void slips() {
        CHECKS.by("SLIP (0 to 50; 0 at first)");
        OldLift lift = new OldLift();
        lift.trip(0, 1, 100);
        for (int n = 0; n <= 50; n++) {
            CHECKS.yes("slip " + n, lift.gauge(0, n));
            CHECKS.due("least", lift.rope(0, 0), 100 - n);
            CHECKS.due("most", lift.rope(0, 1), 100 + n);
        }
        for (int n : new int[] {LOW, -2, -1, 51, 52, 100, HIGH}) {
            CHECKS.no("slip " + n, lift.gauge(0, n));
            CHECKS.due("50 still", lift.rope(0, 0), 50);
        }
    }

    private static void lives() {
        CHECKS.by("LIFE (1 to 999999; 1000 at first)");
        OldLift lift = new OldLift();
        lift.trip(0, 1, 1);
        CHECKS.due("1000", lift.lasts(0, 0), 999);
        for (int n : new int[] {1, 2, 999998, 999999}) {
            CHECKS.yes("life " + n, lift.gauge(1, n));
            CHECKS.due("lasts", lift.lasts(0, 0), n - 1);
        }
        for (int n : new int[] {LOW, -1, 0, 1000000, 1000001, HIGH}) {
            CHECKS.no("life " + n, lift.gauge(1, n));
            CHECKS.due("the most still", lift.lasts(0, 0), 999998);
        }
    }

    private static void days() {
        CHECKS.by("DAYS (1 to 9999; 1 at first)");
        OldLift lift = new OldLift();
        lift.trip(0, 1, 1);
        lift.gauge(1, 2);
        CHECKS.due("1", lift.lasts(0, 0), 1);
        for (int n : new int[] {1, 2, 9998, 9999}) {
            CHECKS.yes("days " + n, lift.gauge(2, n));
            CHECKS.due("lasts", lift.lasts(0, 0), n);
        }
        for (int n : new int[] {LOW, -1, 0, 10000, 10001, HIGH}) {
            CHECKS.no("days " + n, lift.gauge(2, n));
            CHECKS.due("the most still", lift.lasts(0, 0), 9999);
        }
    }

    private static void otherGauges() {
        CHECKS.by("What 0: SLIP, 1: LIFE, 2: DAYS become n: true; false: others.");
        OldLift lift = new OldLift();
        lift.trip(0, 1, 100);
        for (int what : new int[] {LOW, -2, -1, 3, 4, HIGH}) {
            for (int n : new int[] {0, 1, 50}) {
                CHECKS.no("what " + what, lift.gauge(what, n));
            }
        }
        CHECKS.due("slip 0", lift.rope(0, 0), 100);
        CHECKS.due("life 1000, days 1", lift.lasts(0, 0), 9);
        lift.gauge(0, 20);
        CHECKS.due("each by itself", lift.lasts(0, 1), 920 / 80);
        lift.gauge(1, 500);
        CHECKS.due("each by itself", lift.lasts(0, 1), 420 / 80);
        lift.gauge(2, 3);
        CHECKS.due("each by itself", lift.lasts(0, 1), 420 * 3 / 80);
    }

    private static void bothCut() {
        CHECKS.by("the true number of each line is from n - n * SLIP / 100 to n + n * SLIP / 100, both cut.");
        // n, slip, what n * SLIP / 100 is when it is cut.
        int[][] rows = {{1, 50, 0}, {2, 50, 1}, {3, 50, 1}, {4, 50, 2}, {99, 1, 0}, {100, 1, 1}, {101, 1, 1}, {199, 1, 1},
            {200, 1, 2}, {1, 0, 0}, {9999, 0, 0}, {9999, 50, 4999}, {9998, 50, 4999}, {9999, 1, 99}, {33, 3, 0}, {34, 3, 1}};
        for (int[] row : rows) {
            OldLift lift = new OldLift();
            lift.gauge(0, row[1]);
            lift.trip(0, 1, row[0]);
            CHECKS.due("least of " + row[0] + " by " + row[1], lift.rope(0, 0), row[0] - row[2]);
            CHECKS.due("most of " + row[0] + " by " + row[1], lift.rope(0, 1), row[0] + row[2]);
        }
        CHECKS.by("BENDS of a PART: the sum of the TRIPS that pass it, the least and the most.");
        OldLift lift = new OldLift();
        lift.gauge(0, 50);
        for (int i = 1; i <= 5; i++) {
            lift.trip(0, 1, 3);
            CHECKS.due("each line is cut by itself", lift.rope(0, 0), 2 * i);
            CHECKS.due("each line is cut by itself", lift.rope(0, 1), 4 * i);
        }
        CHECKS.due("none pass", lift.rope(1, 0), 0);
        CHECKS.due("none pass", lift.rope(1, 1), 0);
    }

    private static void worn() {
        CHECKS.by("a PART is WORN surely (2) if its least, perhaps (1) if its most is not below that.");
        OldLift lift = new OldLift();
        lift.trip(0, 1, 100);
        lift.gauge(0, 10);
        int[][] rows = {{1, 2}, {89, 2}, {90, 2}, {91, 1}, {109, 1}, {110, 1}, {111, 0}, {999999, 0}};
        for (int[] row : rows) {
            lift.gauge(1, row[0]);
            CHECKS.due("worn by a life of " + row[0], lift.rope(0, 2), row[1]);
            CHECKS.due("no bends are below any", lift.rope(1, 2), 0);
        }
        lift.gauge(0, 0);
        lift.gauge(1, 100);
        CHECKS.due("as many", lift.rope(0, 2), 2);
        lift.gauge(1, 101);
        CHECKS.due("one below", lift.rope(0, 2), 0);
    }

    private static void partsOfRope() {
        CHECKS.by("Of a PART, what 0: the least BENDS, 1: the most, 2: WORN; NONE: none such.");
        for (int floors = 2; floors <= 6; floors++) {
            OldLift lift = new OldLift();
            lift.floors(floors);
            lift.trip(0, floors - 1, 2000);
            lift.gauge(0, 50);
            long[] due = {1000, 3000, 2};
            for (int what = 0; what < 3; what++) {
                CHECKS.due("the first part", lift.rope(0, what), due[what]);
                CHECKS.due("the last part", lift.rope(floors - 2, what), due[what]);
                for (int part : new int[] {LOW, -1, floors - 1, floors, HIGH}) {
                    CHECKS.due("no part " + part, lift.rope(part, what), NONE);
                }
            }
            for (int what : new int[] {LOW, -1, 3, 4, HIGH}) {
                CHECKS.due("no what " + what, lift.rope(0, what), NONE);
            }
        }
    }

    private static void first(OldLift lift, int may, int must) {
        CHECKS.due("may", lift.first(0), may);
        CHECKS.due("must", lift.first(1), must);
    }

    private static void mayAndMust() {
        CHECKS.by("FIRST: PARTS that may (must) have no fewer BENDS than any other, by all true numbers.");
        // Part 0 is 90 to 110; part 1 is told so that its most, or its least, is just there.
        int[][] rows = {{81, 1, 1}, {82, 3, 1}, {83, 3, 0}, {121, 3, 0}, {122, 3, 2}, {123, 2, 2}};
        int[][] ends = {{73, 89}, {74, 90}, {75, 91}, {109, 133}, {110, 134}, {111, 135}};
        for (int i = 0; i < rows.length; i++) {
            OldLift lift = new OldLift();
            lift.gauge(0, 10);
            lift.trip(0, 1, 100);
            lift.trip(2, 1, rows[i][0]);
            CHECKS.due("least", lift.rope(1, 0), ends[i][0]);
            CHECKS.due("most", lift.rope(1, 1), ends[i][1]);
            first(lift, rows[i][1], rows[i][2]);
        }
        // What passes both tells nothing of which has more.
        OldLift shared = new OldLift();
        shared.gauge(0, 50);
        shared.trip(0, 3, 9999);
        first(shared, 7, 7);
        shared.trip(1, 2, 1);
        first(shared, 2, 2);
        shared.trip(0, 1, 1);
        first(shared, 3, 3);
        shared.trip(0, 1, 2);
        first(shared, 1, 1);
        // 2 to 4 against 1 to 3.
        shared.trip(2, 3, 2);
        first(shared, 5, 0);
    }

    private static void firstOfNone() {
        CHECKS.by("FIRST as bits, what 0: PARTS that may, 1: that must; NONE for another what.");
        for (int floors = 2; floors <= 6; floors++) {
            OldLift lift = new OldLift();
            lift.floors(floors);
            int all = (1 << floors - 1) - 1;
            first(lift, all, all);
            lift.trip(floors - 1, floors - 2, 1);
            first(lift, 1 << floors - 2, 1 << floors - 2);
            for (int what : new int[] {LOW, -2, -1, 2, 3, HIGH}) {
                CHECKS.due("what " + what, lift.first(what), NONE);
            }
        }
    }

    private static void lasts() {
        CHECKS.by("with as many a day a PART lasts (LIFE - BENDS) * DAYS / BENDS, cut, 0 at least, DAYS more: the fewest and the most.");
        OldLift lift = new OldLift();
        lift.trip(0, 1, 100);
        long[][] lives = {{100, 0}, {101, 0}, {199, 0}, {200, 1}, {201, 1}, {299, 1}, {300, 2}, {999999, 9998}};
        for (long[] life : lives) {
            lift.gauge(1, (int) life[0]);
            CHECKS.due("fewest by " + life[0], lift.lasts(0, 0), life[1]);
            CHECKS.due("most by " + life[0], lift.lasts(0, 1), life[1]);
        }
        lift.gauge(2, 100);
        lift.gauge(1, 101);
        CHECKS.due("days are multiplied first", lift.lasts(0, 0), 1);
        lift.gauge(2, 99);
        CHECKS.due("cut", lift.lasts(0, 0), 0);
        lift.gauge(0, 10);
        lift.gauge(1, 1000);
        lift.gauge(2, 30);
        CHECKS.due("by the most", lift.lasts(0, 0), 890 * 30 / 110);
        CHECKS.due("by the least", lift.lasts(0, 1), 910 * 30 / 90);
        OldLift far = new OldLift();
        far.trip(0, 1, 1);
        far.gauge(1, 999999);
        far.gauge(2, 9999);
        CHECKS.due("beyond an int", far.lasts(0, 0), 9998980002L);
        CHECKS.due("beyond an int", far.lasts(0, 1), 9998980002L);
        for (int i = 0; i < 39; i++) {
            far.trip(0, 1, 9999);
        }
        CHECKS.due("many bends", far.lasts(0, 0), (999999L - 389962) * 9999 / 389962);
    }

    private static void zeroAtLeast() {
        CHECKS.by("0 at least");
        OldLift lift = new OldLift();
        lift.trip(0, 1, 9999);
        lift.gauge(2, 9999);
        for (int life : new int[] {1, 9998, 9999}) {
            lift.gauge(1, life);
            CHECKS.due("life " + life, lift.lasts(0, 0), 0);
            CHECKS.due("life " + life, lift.lasts(0, 1), 0);
        }
        lift.gauge(1, 10000);
        CHECKS.due("one more", lift.lasts(0, 0), 1);
        lift.gauge(0, 50);
        CHECKS.due("by the most it is worn", lift.lasts(0, 0), 0);
        CHECKS.due("by the least it is not", lift.lasts(0, 1), 9999);
    }

    private static void withoutBends() {
        CHECKS.by("what 0: the fewest (by the most BENDS), 1: the most (by the least); NONE: none such, another what, without BENDS.");
        for (int floors = 2; floors <= 6; floors++) {
            OldLift lift = new OldLift();
            lift.floors(floors);
            for (int part = 0; part < floors - 1; part++) {
                CHECKS.due("without bends", lift.lasts(part, 0), NONE);
                CHECKS.due("without bends", lift.lasts(part, 1), NONE);
            }
            lift.trip(floors - 2, floors - 1, 1);
            lift.gauge(0, 50);
            CHECKS.due("one bend", lift.lasts(floors - 2, 0), 999);
            CHECKS.due("one bend", lift.lasts(floors - 2, 1), 999);
            CHECKS.due("another part", lift.lasts(0, 0), floors == 2 ? 999 : NONE);
            for (int what = 0; what < 2; what++) {
                for (int part : new int[] {LOW, -1, floors - 1, floors, HIGH}) {
                    CHECKS.due("no part " + part, lift.lasts(part, what), NONE);
                }
            }
            for (int what : new int[] {LOW, -2, -1, 2, 3, HIGH}) {
                CHECKS.due("no what " + what, lift.lasts(floors - 2, what), NONE);
            }
        }
    }
}
