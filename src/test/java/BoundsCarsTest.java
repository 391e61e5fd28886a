/** The bounds of promises 17 to 21, what is told of cars: a test for each sentence that names one. */
public final class BoundsCarsTest {
    private static final Checks CHECKS = new Checks("BoundsCarsTest");
    private static final int NONE = OldLift.NONE;
    private static final int LOW = Integer.MIN_VALUE;
    private static final int HIGH = Integer.MAX_VALUE;

    private BoundsCarsTest() { }

    public static void main(String[] args) {
        howManyCars();
        sizes();
        doors();
        parks();
        carsTogether();
        times();
        floorsOfPersons();
        anotherFloor();
        numbersOfPersons();
        holdTimes();
        holdCars();
        holdTicks();
        eightHolds();
        fireTimes();
        noFire();
        nobody();
        CHECKS.end();
    }

    private static void howManyCars() {
        CHECKS.by("CARS 0 and 1 (one or two, 1 at first)");
        OldLift lift = new OldLift();
        for (int n : new int[] {LOW, -1, 0, 3, 4, HIGH}) {
            CHECKS.no("cars " + n, lift.cars(n, 4, 1, 0));
            CHECKS.due("one still", lift.count(3), 1);
        }
        CHECKS.yes("two", lift.cars(2, 4, 1, 0));
        CHECKS.due("two", lift.count(3), 2);
        CHECKS.due("car 1 is there", lift.stopped(1), 0);
        CHECKS.due("no car 2", lift.stopped(2), NONE);
        for (int n : new int[] {LOW, -1, 0, 3, 4, HIGH}) {
            CHECKS.no("cars " + n, lift.cars(n, 4, 1, 0));
            CHECKS.due("two still", lift.count(3), 2);
        }
        CHECKS.yes("one", lift.cars(1, 4, 1, 0));
        CHECKS.due("one", lift.count(3), 1);
        CHECKS.due("no car 1", lift.stopped(1), NONE);
        CHECKS.due("car 0", lift.stopped(0), 0);
    }

    private static void sizes() {
        CHECKS.by("SIZE (1 to 8; 4 at first)");
        for (int size = 1; size <= 8; size++) {
            OldLift lift = new OldLift();
            CHECKS.yes("size " + size, lift.cars(1, size, 0, 0));
            for (int i = 0; i < size; i++) {
                lift.person(0, 0, 1);
            }
            CHECKS.due("all in one ride", lift.run(), 2);
            CHECKS.due("the last one is in", lift.rode(size - 1, 1), 0);
            lift.person(0, 0, 1);
            CHECKS.due("one too many: a second ride", lift.run(), 6);
            CHECKS.due("the last one waits", lift.rode(size, 1), 4);
            CHECKS.due("he alone", lift.waits(0), 4);
        }
        OldLift lift = new OldLift();
        for (int i = 0; i < 5; i++) {
            lift.person(0, 0, 1);
        }
        for (int size : new int[] {LOW, -1, 0, 9, 10, HIGH}) {
            CHECKS.no("size " + size, lift.cars(1, size, 1, 0));
            CHECKS.due("four are in still", lift.rode(3, 1), 0);
            CHECKS.due("and not five", lift.rode(4, 1), 6);
        }
    }

    private static void doors() {
        CHECKS.by("DOORS (0 to 9 ticks of TIME; 1 at first)");
        OldLift lift = new OldLift();
        lift.person(0, 0, 1);
        CHECKS.due("1 at first", lift.run(), 3);
        for (int ticks = 0; ticks <= 9; ticks++) {
            CHECKS.yes("doors " + ticks, lift.cars(1, 4, ticks, 0));
            CHECKS.due("it stands for so long", lift.run(), 2 + ticks);
        }
        for (int ticks : new int[] {LOW, -2, -1, 10, 11, HIGH}) {
            CHECKS.no("doors " + ticks, lift.cars(1, 4, ticks, 0));
            CHECKS.due("9 still", lift.run(), 11);
        }
    }

    private static void parks() {
        CHECKS.by("a PARK (a FLOOR; 0 at first)");
        for (int floors = 2; floors <= 6; floors++) {
            OldLift lift = new OldLift();
            lift.floors(floors);
            for (int park = 0; park < floors; park++) {
                CHECKS.yes("park " + park, lift.cars(1, 4, 0, park));
                lift.nobody();
                lift.person(30, park, park == 0 ? 1 : 0);
                CHECKS.due("it waits there", lift.rode(0, 1), 30);
                CHECKS.due("one way", lift.moved(0, 0), park == 0 ? 1 : 2);
            }
            for (int park : new int[] {LOW, -1, floors, 6, HIGH}) {
                CHECKS.no("park " + park, lift.cars(1, 4, 0, park));
                CHECKS.due("the top floor still", lift.rode(0, 1), 30);
            }
        }
    }

    private static void carsTogether() {
        CHECKS.by("CARS: how many, SIZE, DOORS, PARK: true; false: others.");
        OldLift lift = new OldLift();
        CHECKS.yes("all the least", lift.cars(1, 1, 0, 0));
        CHECKS.yes("all the most", lift.cars(2, 8, 9, 3));
        for (int[] row : new int[][] {{0, 0, -1, -1}, {3, 9, 10, 4}, {2, 8, 9, 4}, {2, 8, 10, 3}, {2, 9, 9, 3}, {3, 8, 9, 3}}) {
            CHECKS.no("others", lift.cars(row[0], row[1], row[2], row[3]));
        }
        lift.person(0, 0, 3);
        CHECKS.due("doors 9 still", lift.run(), 13);
        CHECKS.due("park 3 still", lift.moved(1, 2), 1);
    }

    private static void times() {
        CHECKS.by("each comes at a TIME (0 to 300) to a FLOOR and wishes to another one.");
        for (int time : new int[] {0, 1, 299, 300}) {
            OldLift lift = new OldLift();
            CHECKS.due("time " + time, lift.person(time, 0, 1), 0);
            CHECKS.due("in", lift.rode(0, 1), time);
            CHECKS.due("no wait", lift.rode(0, 3), 0);
            CHECKS.due("over", lift.run(), time + 3);
        }
        OldLift lift = new OldLift();
        for (int time : new int[] {LOW, -2, -1, 301, 302, 900, HIGH}) {
            CHECKS.due("time " + time, lift.person(time, 0, 1), NONE);
        }
        CHECKS.due("nobody came", lift.count(4), 0);
        CHECKS.due("nothing to run", lift.run(), 0);
    }

    private static void floorsOfPersons() {
        CHECKS.by("to a FLOOR");
        for (int floors = 2; floors <= 6; floors++) {
            OldLift lift = new OldLift();
            lift.floors(floors);
            CHECKS.due("from the top", lift.person(0, floors - 1, 0), 0);
            CHECKS.due("to the top", lift.person(0, 0, floors - 1), 1);
            for (int floor : new int[] {LOW, -1, floors, 6, HIGH}) {
                CHECKS.due("from " + floor, lift.person(0, floor, 0), NONE);
                CHECKS.due("to " + floor, lift.person(0, 0, floor), NONE);
                CHECKS.due("from and to " + floor, lift.person(0, floor, floor), NONE);
            }
            CHECKS.due("two", lift.count(4), 2);
        }
    }

    private static void anotherFloor() {
        CHECKS.by("wishes to another one.");
        OldLift lift = new OldLift();
        lift.floors(6);
        int persons = 0;
        for (int from = 0; from < 6; from++) {
            for (int to = Math.max(0, from - 1); to < Math.min(6, from + 2); to++) {
                CHECKS.due("from " + from + " to " + to, lift.person(0, from, to), from == to ? NONE : persons);
                persons += from == to ? 0 : 1;
            }
        }
        CHECKS.due("ten", lift.count(4), 10);
    }

    private static void numbersOfPersons() {
        CHECKS.by("A PERSON: the number (from 0); NONE: others, 24 are there.");
        OldLift lift = new OldLift();
        for (int i = 0; i < 24; i++) {
            CHECKS.due("no such person yet", lift.rode(i, 3), NONE);
            CHECKS.due("one that is refused takes no number", lift.person(0, 1, 1), NONE);
            CHECKS.due("person " + i, lift.person(i, 0, 3), i);
        }
        int over = lift.run();
        for (int i = 0; i < 3; i++) {
            CHECKS.due("a 25th", lift.person(300, 3, 0), NONE);
        }
        CHECKS.due("24", lift.count(4), 24);
        CHECKS.due("the run is the same", lift.run(), over);
        CHECKS.due("the last one rides", lift.rode(23, 0), 0);
        CHECKS.due("no 25th rides", lift.rode(24, 0), NONE);
        lift.nobody();
        CHECKS.due("from 0 again", lift.person(0, 0, 3), 0);
    }

    /** One person who is in at 0 and out at 1 behind nine ticks of doors: over at 11. */
    private static OldLift slow() {
        OldLift lift = new OldLift();
        lift.cars(1, 4, 9, 0);
        lift.person(0, 0, 1);
        return lift;
    }

    private static void holdTimes() {
        CHECKS.by("A HOLD of a CAR (0, 1; there or not) at a TIME (0 to 899)");
        OldLift lift = slow();
        for (int time : new int[] {LOW, -2, -1, 900, 901, HIGH}) {
            CHECKS.no("hold at " + time, lift.hold(time, 0, 5));
        }
        CHECKS.due("none", lift.count(5), 0);
        CHECKS.due("none", lift.run(), 11);
        for (int time : new int[] {0, 1, 898, 899}) {
            CHECKS.yes("hold at " + time, lift.hold(time, 0, 5));
        }
        CHECKS.due("four", lift.count(5), 4);
        CHECKS.due("at 1 alone it stands", lift.run(), 16);
    }

    private static void holdCars() {
        CHECKS.by("(0, 1; there or not)");
        OldLift lift = slow();
        for (int car : new int[] {LOW, -1, 2, 3, HIGH}) {
            CHECKS.no("hold of car " + car, lift.hold(1, car, 5));
        }
        CHECKS.due("none", lift.count(5), 0);
        CHECKS.yes("car 1, which is not there", lift.hold(1, 1, 5));
        CHECKS.due("one", lift.count(5), 1);
        CHECKS.due("it holds nothing", lift.run(), 11);
        CHECKS.yes("car 0", lift.hold(1, 0, 5));
        CHECKS.due("held", lift.run(), 16);
        Texts.readRule(lift, "0-car");
        lift.cars(2, 4, 9, 0);
        CHECKS.due("car 1 is there now, and held", lift.run(), 16);
        CHECKS.due("it is car 1", lift.rode(0, 0), 1);
    }

    private static void holdTicks() {
        CHECKS.by("for n ticks (1 to 60)");
        for (int n : new int[] {1, 2, 59, 60}) {
            OldLift lift = slow();
            CHECKS.yes("hold for " + n, lift.hold(1, 0, n));
            CHECKS.due("so many more", lift.run(), 11 + n);
        }
        OldLift lift = slow();
        for (int n : new int[] {LOW, -1, 0, 61, 62, HIGH}) {
            CHECKS.no("hold for " + n, lift.hold(1, 0, n));
            CHECKS.due("none more", lift.run(), 11);
        }
    }

    private static void eightHolds() {
        CHECKS.by("8 at most: true; false: others.");
        OldLift lift = slow();
        for (int i = 1; i <= 8; i++) {
            CHECKS.no("one that is refused takes no room", lift.hold(1, 0, 0));
            CHECKS.yes("hold " + i, lift.hold(1, 0, 60));
            CHECKS.due("how many", lift.count(5), i);
            CHECKS.due("held", lift.run(), 11 + 60 * i);
        }
        for (int i = 0; i < 3; i++) {
            CHECKS.no("a ninth", lift.hold(1, 0, 1));
            CHECKS.due("eight", lift.count(5), 8);
            CHECKS.due("held", lift.run(), 491);
        }
        lift.nobody();
        CHECKS.yes("room again", lift.hold(1, 0, 1));
        CHECKS.due("one", lift.count(5), 1);
    }

    private static void fireTimes() {
        CHECKS.by("FIRE from a TIME (0 to 899) on");
        OldLift lift = slow();
        for (int time : new int[] {LOW, -3, -2, 900, 901, HIGH}) {
            CHECKS.no("fire at " + time, lift.fire(time));
            CHECKS.due("none", lift.run(), 11);
        }
        CHECKS.yes("at 899", lift.fire(899));
        CHECKS.due("too late", lift.run(), 11);
        CHECKS.yes("at 898", lift.fire(898));
        CHECKS.due("too late", lift.run(), 11);
        CHECKS.yes("at 1", lift.fire(1));
        CHECKS.due("it stands until 9", lift.run(), 10);
        CHECKS.yes("at 0", lift.fire(0));
        CHECKS.due("at once", lift.run(), 0);
        for (int time : new int[] {LOW, -2, 900, HIGH}) {
            CHECKS.no("fire at " + time, lift.fire(time));
            CHECKS.due("at once still", lift.run(), 0);
        }
    }

    private static void noFire() {
        CHECKS.by("FIRE from a TIME on (NONE: none): true; false: another.");
        OldLift lift = slow();
        CHECKS.yes("none, without one", lift.fire(NONE));
        CHECKS.due("none", lift.run(), 11);
        lift.fire(0);
        CHECKS.yes("none", lift.fire(NONE));
        CHECKS.due("none", lift.run(), 11);
        lift.fire(0);
        CHECKS.yes("another time is the one", lift.fire(3));
        CHECKS.due("from 3 on", lift.run(), 10);
    }

    private static void nobody() {
        CHECKS.by("No PERSONS, HOLDS, FIRE any more: true.");
        CHECKS.yes("nobody is there", new OldLift().nobody());
        OldLift lift = Texts.liftByRule("0-car");
        lift.cars(2, 1, 2, 3);
        for (int i = 0; i < 24; i++) {
            lift.person(0, 0, 3);
        }
        for (int i = 0; i < 8; i++) {
            lift.hold(1, 1, 60);
        }
        lift.fire(5);
        lift.trip(0, 1, 1);
        CHECKS.yes("nobody", lift.nobody());
        CHECKS.due("no persons", lift.count(4), 0);
        CHECKS.due("no holds", lift.count(5), 0);
        CHECKS.due("run", lift.run(), 0);
        CHECKS.due("rode", lift.rode(0, 3), NONE);
        CHECKS.due("best", lift.best(0, 0), NONE);
        CHECKS.due("cars stay", lift.count(3), 2);
        CHECKS.due("trips stay", lift.count(6), 1);
        lift.person(0, 0, 3);
        CHECKS.due("no hold, no fire, doors as they were", lift.run(), 6);
        CHECKS.due("the rule stays", lift.rode(0, 0), 1);
        CHECKS.due("the park stays", lift.moved(0, 2), 1);
        CHECKS.yes("and again", lift.nobody());
        CHECKS.due("run", lift.run(), 0);
    }
}
