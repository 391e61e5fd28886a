/** The bounds of promise 27, the best way of all: a test for each sentence that names one. */
public final class BoundsBestTest {
    private static final Checks CHECKS = new Checks("BoundsBestTest");
    private static final int NONE = OldLift.NONE;
    private static final int LOW = Integer.MIN_VALUE;
    private static final int HIGH = Integer.MAX_VALUE;

    private BoundsBestTest() { }

    public static void main(String[] args) {
        howManyPersons();
        leastBits();
        oneCar();
        insteadOfARule();
        thoseNeverOver();
        neverAtAll();
        askedWrong();
        byAllThatIsTold();
        CHECKS.end();
    }

    private static OldLift lift(int floors, int cars, int size, int doors) {
        OldLift lift = new OldLift();
        CHECKS.yes("floors", lift.floors(floors));
        CHECKS.yes("cars", lift.cars(cars, size, doors, 0));
        return lift;
    }

    private static void best(OldLift lift, int aim, int least, int way) {
        CHECKS.due("least by aim " + aim, lift.best(aim, 0), least);
        CHECKS.due("way by aim " + aim, lift.best(aim, 1), way);
    }

    private static void howManyPersons() {
        CHECKS.by("of all ways to give 8 PERSONS at most to the CARS (instead of a RULE) that with the least");
        OldLift lift = lift(2, 2, 1, 0);
        for (int aim = 0; aim < 3; aim++) {
            best(lift, aim, NONE, NONE);
        }
        // Each ride is 2 up and 2 down; the cars take turns, of equal ways car 0 takes the higher numbers.
        int[] sums = {0, 0, 4, 8, 16, 24, 36, 48};
        int[] ways = {0, 1, 1, 3, 3, 7, 7, 15};
        for (int n = 1; n <= 8; n++) {
            CHECKS.due("person", lift.person(0, 0, 1), n - 1);
            int rounds = (n + 1) / 2;
            CHECKS.due("sum of " + n, lift.best(0, 0), sums[n - 1]);
            CHECKS.due("greatest of " + n, lift.best(1, 0), 4 * (rounds - 1));
            CHECKS.due("end of " + n, lift.best(2, 0), 4 * rounds - 2);
            CHECKS.due("way of " + n, lift.best(0, 1), ways[n - 1]);
        }
        CHECKS.by("NONE: no PERSON, more than 8, another AIM, what, none (2).");
        for (int n = 9; n <= 24; n++) {
            lift.person(0, 0, 1);
            for (int aim = 0; aim < 3; aim++) {
                best(lift, aim, NONE, NONE);
            }
        }
        lift.cars(1, 1, 0, 0);
        best(lift, 0, NONE, NONE);
        lift.nobody();
        best(lift, 0, NONE, NONE);
        lift.person(0, 0, 1);
        best(lift, 0, 0, 0);
    }

    private static void leastBits() {
        CHECKS.by("of equal ones the least as bits (PERSON 0 lowest; 1: to CAR 1).");
        OldLift lift = lift(2, 2, 8, 0);
        for (int i = 0; i < 8; i++) {
            lift.person(0, 0, 1);
        }
        best(lift, 0, 0, 0);
        best(lift, 1, 0, 0);
        best(lift, 2, 2, 0);
        // With room for seven one has to go by car 1: person 0, the lowest bit.
        lift.cars(2, 7, 0, 0);
        best(lift, 0, 0, 1);
        lift.cars(2, 6, 0, 0);
        best(lift, 0, 0, 3);
        lift.cars(2, 5, 0, 0);
        best(lift, 0, 0, 7);
        lift.cars(2, 4, 0, 0);
        best(lift, 0, 0, 15);
        best(lift, 1, 0, 15);
        best(lift, 2, 2, 15);
        // The highest bit: the hold of car 0 is at 301, when person 7 is in.
        OldLift last = lift(2, 2, 1, 1);
        for (int i = 0; i < 7; i++) {
            last.person(20 * i, 0, 1);
        }
        last.person(300, 0, 1);
        best(last, 2, 303, 0);
        last.hold(301, 0, 60);
        best(last, 2, 303, 128);
        best(last, 0, 0, 0);
        last.hold(121, 0, 60);
        last.hold(121, 0, 60);
        last.hold(121, 0, 59);
        // Person 6 would stand in car 0 until 300.
        best(last, 2, 303, 128);
        last.hold(121, 0, 2);
        best(last, 2, 303, 192);
        best(last, 0, 0, 64);
    }

    private static void oneCar() {
        CHECKS.by("to the CARS");
        OldLift lift = lift(2, 1, 1, 0);
        lift.person(0, 0, 1);
        lift.person(0, 0, 1);
        best(lift, 0, 4, 0);
        best(lift, 1, 4, 0);
        best(lift, 2, 6, 0);
        lift.cars(2, 1, 0, 0);
        best(lift, 0, 0, 1);
        best(lift, 1, 0, 1);
        best(lift, 2, 2, 1);
        lift.cars(1, 1, 0, 0);
        best(lift, 0, 4, 0);
        // Without a ride it would be over at 2: but all have to be given to the one car there is.
        OldLift fire = lift(4, 1, 1, 0);
        fire.person(0, 0, 3);
        fire.fire(2);
        best(fire, 2, 3, 0);
        best(fire, 0, 0, 0);
    }

    private static void insteadOfARule() {
        CHECKS.by("(instead of a RULE)");
        for (String rule : new String[] {"", "car", "0-car", "stops", "time"}) {
            OldLift lift = lift(2, 2, 1, 0);
            Texts.readRule(lift, rule);
            lift.person(0, 0, 1);
            lift.person(0, 0, 1);
            lift.person(0, 0, 1);
            best(lift, 0, 4, 1);
            int run = lift.run();
            CHECKS.due("the run is by the rule", run, rule.equals("stops") ? 6 : 10);
            CHECKS.due("best leaves it", lift.run(), run);
            CHECKS.due("best leaves it", lift.rode(0, 0), rule.equals("0-car") ? 1 : 0);
        }
    }

    private static void thoseNeverOver() {
        CHECKS.by("By AIM 2 those that are never over are none.");
        // A ride takes 30; car 0 is held 480 ticks at its first one. Four rides of it end at 885, five never.
        OldLift lift = lift(6, 2, 1, 9);
        for (int i = 0; i < 5; i++) {
            lift.person(300, 0, 5);
        }
        for (int i = 0; i < 8; i++) {
            lift.hold(301, 0, 60);
        }
        CHECKS.due("all by car 0", lift.run(), NONE);
        best(lift, 2, 435, 31);
        // One takes car 0 without a wait, then four take car 1.
        best(lift, 0, 180, 15);
        best(lift, 1, 90, 15);
        // Both are held 240 ticks: five rides of one end at 675, three of one and two of the other at 615.
        OldLift both = lift(6, 2, 1, 9);
        for (int i = 0; i < 5; i++) {
            both.person(300, 0, 5);
        }
        for (int i = 0; i < 4; i++) {
            both.hold(301, 0, 60);
            both.hold(301, 1, 60);
        }
        CHECKS.due("all by car 0", both.run(), 675);
        best(both, 2, 615, 3);
    }

    private static void neverAtAll() {
        CHECKS.by("NONE: no PERSON, more than 8, another AIM, what, none (2).");
        OldLift lift = lift(6, 1, 1, 9);
        for (int i = 0; i < 4; i++) {
            lift.person(300, 0, 5);
        }
        for (int i = 0; i < 7; i++) {
            lift.hold(301, 0, 60);
        }
        lift.hold(301, 0, 60);
        CHECKS.due("at 885", lift.run(), 885);
        best(lift, 2, 885, 0);
        lift.person(300, 0, 5);
        CHECKS.due("never", lift.run(), NONE);
        best(lift, 2, NONE, NONE);
        // In at 300, 810, 840, 870; the fifth would be at 900.
        best(lift, 0, 510 + 540 + 570 + 900, 0);
        best(lift, 1, 900, 0);
    }

    private static void askedWrong() {
        CHECKS.by("BEST, what 0: the least, 1: the way as bits; NONE: no PERSON, more than 8, another AIM, what, none (2).");
        OldLift lift = lift(2, 2, 1, 0);
        lift.person(0, 0, 1);
        lift.person(0, 0, 1);
        for (int wrong : new int[] {LOW, -2, -1, 3, 4, HIGH}) {
            for (int what = 0; what < 2; what++) {
                CHECKS.due("another aim", lift.best(wrong, what), NONE);
            }
        }
        for (int aim = 0; aim < 3; aim++) {
            for (int wrong : new int[] {LOW, -2, -1, 2, 3, HIGH}) {
                CHECKS.due("another what", lift.best(aim, wrong), NONE);
            }
            CHECKS.due("the way", lift.best(aim, 1), 1);
        }
    }

    private static void byAllThatIsTold() {
        CHECKS.by("BEST by an AIM (0 the sum of WAITS, 1 the greatest WAIT, 2 END)");
        OldLift lift = lift(4, 2, 1, 1);
        lift.person(0, 0, 3);
        lift.person(0, 0, 3);
        best(lift, 2, 5, 1);
        lift.hold(1, 1, 60);
        best(lift, 2, 15, 0);
        best(lift, 0, 0, 1);
        lift.hold(1, 0, 60);
        best(lift, 2, 65, 1);
        lift.fire(2);
        best(lift, 2, 62, 0);
        lift.fire(0);
        best(lift, 0, 1800, 0);
        best(lift, 1, 900, 0);
        best(lift, 2, 0, 0);
        lift.fire(NONE);
        best(lift, 2, 65, 1);
        lift.cars(2, 2, 1, 0);
        best(lift, 2, 65, 0);
    }
}
