/** Promises 17 to 27: cars, person, hold, fire, nobody, run, rode, waits, moved, stopped, best. */
public final class CarsTest {
    private static final Checks CHECKS = new Checks("CarsTest");
    private static final int NONE = OldLift.NONE;
    private static final int LOW = Integer.MIN_VALUE;
    private static final int HIGH = Integer.MAX_VALUE;

    private CarsTest() { }

    public static void main(String[] args) {
        cars();
        person();
        hold();
        fire();
        nobody();
        oneRide();
        room();
        heading();
        park();
        holds();
        burning();
        tooLate();
        neverOver();
        thatRun();
        thatRunByEach();
        best();
        bestBounds();
        CHECKS.end();
    }

    private static void cars() {
        OldLift lift = new OldLift();
        int[][] wrong = {{0, 1, 1, 0}, {3, 1, 1, 0}, {1, 0, 1, 0}, {1, 9, 1, 0}, {1, 1, -1, 0}, {1, 1, 10, 0},
            {1, 1, 1, -1}, {1, 1, 1, 4}, {LOW, 1, 1, 1}, {1, HIGH, 1, 1}, {1, 1, LOW, 1}, {1, 1, 1, HIGH}};
        for (int[] row : wrong) {
            CHECKS.no("cars", lift.cars(row[0], row[1], row[2], row[3]));
        }
        CHECKS.due("one car", lift.count(3), 1);
        CHECKS.yes("most", lift.cars(2, 8, 9, 3));
        CHECKS.due("two cars", lift.count(3), 2);
        CHECKS.yes("least", lift.cars(1, 1, 0, 0));
        CHECKS.due("one car", lift.count(3), 1);
    }

    private static void person() {
        OldLift lift = new OldLift();
        int[][] wrong = {{-1, 0, 1}, {301, 0, 1}, {0, -1, 1}, {0, 4, 1}, {0, 0, -1}, {0, 0, 4}, {0, 2, 2},
            {LOW, 0, 1}, {HIGH, 0, 1}, {0, LOW, 1}, {0, 1, HIGH}};
        for (int[] row : wrong) {
            CHECKS.due("person", lift.person(row[0], row[1], row[2]), NONE);
        }
        for (int i = 0; i < 24; i++) {
            CHECKS.due("person " + i, lift.person(i % 2 * 300, i % 3, 3), i);
        }
        CHECKS.due("a 25th", lift.person(0, 0, 1), NONE);
        CHECKS.due("24 there", lift.count(4), 24);
    }

    private static void hold() {
        OldLift lift = new OldLift();
        int[][] wrong = {{-1, 0, 1}, {900, 0, 1}, {0, -1, 1}, {0, 2, 1}, {0, 0, 0}, {0, 0, 61}, {LOW, 0, 1},
            {HIGH, 0, 1}, {0, LOW, 1}, {0, HIGH, 1}, {0, 0, LOW}, {0, 0, HIGH}};
        for (int[] row : wrong) {
            CHECKS.no("hold", lift.hold(row[0], row[1], row[2]));
        }
        for (int i = 0; i < 8; i++) {
            CHECKS.yes("hold " + i, lift.hold(i % 2 * 899, i % 2, 1 + i % 2 * 59));
        }
        CHECKS.no("a ninth", lift.hold(0, 0, 1));
        CHECKS.due("8 there", lift.count(5), 8);
    }

    private static void fire() {
        OldLift lift = new OldLift();
        for (int time : new int[] {-2, 900, LOW, HIGH}) {
            CHECKS.no("fire " + time, lift.fire(time));
        }
        for (int time : new int[] {0, 899, NONE}) {
            CHECKS.yes("fire " + time, lift.fire(time));
        }
        lift.person(0, 0, 3);
        lift.fire(0);
        CHECKS.no("another", lift.fire(900));
        CHECKS.due("it burns still", lift.run(), 0);
        lift.fire(NONE);
        CHECKS.due("no more", lift.run(), 5);
    }

    private static void nobody() {
        OldLift lift = new OldLift();
        lift.cars(2, 1, 0, 2);
        lift.person(0, 0, 3);
        lift.hold(0, 0, 60);
        lift.fire(1);
        CHECKS.yes("nobody", lift.nobody());
        CHECKS.due("persons", lift.count(4), 0);
        CHECKS.due("holds", lift.count(5), 0);
        CHECKS.due("cars stay", lift.count(3), 2);
        CHECKS.due("run", lift.run(), 0);
        CHECKS.due("nothing moves", lift.moved(0, 0), 0);
        CHECKS.due("numbers from 0", lift.person(0, 0, 3), 0);
        CHECKS.due("no fire, doors still 0", lift.run(), 4);
    }

    private static void ride(OldLift lift, int person, int car, int in, int out, int wait) {
        CHECKS.due("car of " + person, lift.rode(person, 0), car);
        CHECKS.due("in of " + person, lift.rode(person, 1), in);
        CHECKS.due("out of " + person, lift.rode(person, 2), out);
        CHECKS.due("wait of " + person, lift.rode(person, 3), wait);
    }

    private static void oneRide() {
        OldLift lift = new OldLift();
        lift.person(5, 1, 0);
        CHECKS.due("run", lift.run(), 9);
        ride(lift, 0, 0, 6, 9, 1);
        CHECKS.due("up and down", lift.moved(0, 0), 2);
        CHECKS.due("no further", lift.moved(0, 1), 0);
        CHECKS.due("stops", lift.stopped(0), 2);
        for (int wrong : new int[] {-1, 1, LOW, HIGH}) {
            CHECKS.due("no such person", lift.rode(wrong, 0), NONE);
            CHECKS.due("no such car", lift.moved(wrong, 0), NONE);
            CHECKS.due("no such car", lift.stopped(wrong), NONE);
        }
        for (int wrong : new int[] {-1, 4, LOW, HIGH}) {
            CHECKS.due("no such what", lift.rode(0, wrong), NONE);
            CHECKS.due("no such what", lift.waits(wrong), NONE);
            CHECKS.due("no such part", lift.moved(0, wrong), NONE);
        }
        CHECKS.due("no such part", lift.moved(0, 3), NONE);
    }

    private static void room() {
        OldLift lift = new OldLift();
        lift.cars(1, 1, 0, 0);
        lift.person(0, 0, 1);
        lift.person(0, 0, 2);
        CHECKS.due("run", lift.run(), 7);
        ride(lift, 0, 0, 0, 2, 0);
        ride(lift, 1, 0, 4, 7, 4);
        CHECKS.due("sum", lift.waits(0), 4);
        CHECKS.due("greatest", lift.waits(1), 4);
        CHECKS.due("whose", lift.waits(2), 1);
        CHECKS.due("out", lift.waits(3), 2);
        CHECKS.due("stops", lift.stopped(0), 4);
        // Room behind those who get out: at floor 1 one leaves and one comes in, by one stop.
        OldLift swap = new OldLift();
        swap.cars(1, 1, 0, 0);
        swap.person(0, 0, 1);
        swap.person(0, 1, 0);
        CHECKS.due("run", swap.run(), 4);
        ride(swap, 1, 0, 2, 4, 2);
        CHECKS.due("stops", swap.stopped(0), 3);
        // Full: it passes who waits, and that floor is no goal.
        OldLift full = new OldLift();
        full.cars(1, 1, 0, 0);
        full.person(0, 0, 3);
        full.person(0, 1, 2);
        CHECKS.due("run", full.run(), 9);
        ride(full, 1, 0, 7, 9, 7);
        CHECKS.due("the first of equal waits", full.waits(2), 1);
        // Of those who wait the lowest numbers get in, whenever they came.
        OldLift order = new OldLift();
        order.cars(1, 1, 0, 0);
        order.person(1, 1, 2);
        order.person(0, 1, 2);
        order.run();
        CHECKS.due("in order", order.rode(0, 1), 1);
        CHECKS.due("later", order.rode(1, 1), 5);
    }

    private static void heading() {
        OldLift lift = new OldLift();
        lift.cars(1, 4, 0, 1);
        lift.person(5, 0, 3);
        lift.person(5, 2, 3);
        CHECKS.due("up, of equal ones", lift.run(), 16);
        ride(lift, 1, 0, 6, 8, 1);
        ride(lift, 0, 0, 12, 16, 7);
        // It keeps its heading though a goal behind it is nearer.
        OldLift keeps = new OldLift();
        keeps.floors(6);
        keeps.cars(1, 4, 0, 0);
        keeps.person(0, 0, 5);
        keeps.person(4, 2, 1);
        CHECKS.due("run", keeps.run(), 12);
        ride(keeps, 0, 0, 0, 6, 0);
        ride(keeps, 1, 0, 10, 12, 6);
        // Heading nowhere it takes the nearest, be it below.
        OldLift near = new OldLift();
        near.floors(6);
        near.cars(1, 4, 0, 2);
        near.person(9, 5, 0);
        near.person(9, 1, 0);
        CHECKS.due("run", near.run(), 24);
        ride(near, 1, 0, 10, 12, 1);
    }

    private static void park() {
        OldLift lift = new OldLift();
        lift.cars(2, 4, 1, 2);
        lift.person(0, 0, 1);
        CHECKS.due("run", lift.run(), 3);
        CHECKS.due("car 1 goes to its park", lift.moved(1, 0), 1);
        CHECKS.due("car 1 goes to its park", lift.moved(1, 1), 1);
        CHECKS.due("and no further", lift.moved(1, 2), 0);
        CHECKS.due("it does not stop", lift.stopped(1), 0);
        lift.nobody();
        lift.person(100, 2, 0);
        CHECKS.due("waits at the park", lift.run(), 104);
        ride(lift, 0, 0, 100, 104, 0);
    }

    private static void holds() {
        OldLift lift = new OldLift();
        lift.cars(1, 4, 1, 0);
        lift.person(0, 0, 1);
        CHECKS.due("without", lift.run(), 3);
        lift.hold(1, 0, 5);
        CHECKS.due("it is standing at 1", lift.run(), 8);
        lift.hold(2, 0, 60);
        CHECKS.due("and at 2 by then", lift.run(), 68);
        lift.hold(0, 0, 7);
        CHECKS.due("at 0 it is not standing yet", lift.run(), 68);
        lift.hold(1, 1, 60);
        CHECKS.due("car 1 is not there", lift.run(), 68);
        lift.hold(1, 0, 1);
        lift.hold(1, 0, 1);
        CHECKS.due("all of one time", lift.run(), 70);
        lift.cars(1, 4, 0, 0);
        CHECKS.due("doors 0: never standing", lift.run(), 2);
        OldLift two = new OldLift();
        two.cars(2, 4, 2, 0);
        Texts.feed(two, "0-car");
        two.rule();
        two.person(0, 0, 1);
        two.hold(1, 0, 9);
        CHECKS.due("the other car's hold", two.run(), 4);
        two.hold(1, 1, 9);
        CHECKS.due("its own", two.run(), 13);
    }

    private static void burning() {
        OldLift lift = new OldLift();
        lift.cars(1, 4, 0, 0);
        lift.person(0, 0, 3);
        lift.fire(3);
        CHECKS.due("down again", lift.run(), 5);
        ride(lift, 0, 0, 0, 5, 0);
        CHECKS.due("a stop to get in only", lift.stopped(0), 1);
        CHECKS.due("up and down", lift.moved(0, 1), 2);
        CHECKS.due("no higher", lift.moved(0, 2), 0);
        lift.cars(1, 4, 9, 0);
        lift.fire(1);
        CHECKS.due("it stands first", lift.run(), 10);
        lift.hold(5, 0, 3);
        CHECKS.due("and is held", lift.run(), 13);
        lift.nobody();
        lift.cars(1, 4, 0, 3);
        lift.person(50, 1, 2);
        lift.fire(10);
        CHECKS.due("from its park to floor 0", lift.run(), 12);
        ride(lift, 0, NONE, NONE, NONE, 900);
        CHECKS.due("sum", lift.waits(0), 900);
        CHECKS.due("greatest", lift.waits(1), 900);
        CHECKS.due("nobody got out", lift.waits(3), 0);
        CHECKS.due("moved", lift.moved(0, 2), 2);
        lift.fire(0);
        CHECKS.due("at once", lift.run(), 0);
        CHECKS.due("nothing moved", lift.moved(0, 0), 0);
        // Who was given and waits is left behind.
        OldLift left = new OldLift();
        left.person(0, 3, 0);
        left.fire(2);
        CHECKS.due("back at floor 0", left.run(), 3);
        ride(left, 0, 0, NONE, NONE, 900);
        // All out ahead of the fire: it is over then.
        OldLift early = new OldLift();
        early.person(0, 0, 1);
        early.fire(500);
        CHECKS.due("no fire yet", early.run(), 3);
        // Both cars must be down.
        OldLift two = new OldLift();
        two.cars(2, 4, 0, 3);
        two.person(0, 0, 3);
        two.person(200, 0, 3);
        two.fire(100);
        CHECKS.due("both", two.run(), 102);
    }

    private static void tooLate() {
        OldLift lift = new OldLift();
        lift.floors(6);
        lift.cars(1, 1, 9, 0);
        for (int i = 0; i < 24; i++) {
            lift.person(0, 0, 5);
        }
        // Each takes 10 at the foot, 5 up, 10 at the top, 5 down.
        CHECKS.due("run", lift.run(), 30 * 23 + 15);
        CHECKS.due("the last one", lift.rode(23, 1), 690);
        CHECKS.due("sum", lift.waits(0), 30 * 23 * 24 / 2);
        CHECKS.due("whose", lift.waits(2), 23);
        for (int i = 0; i < 8; i++) {
            lift.hold(1, 0, 60);
        }
        CHECKS.due("never", lift.run(), NONE);
        // In at 30 n + 480, if that is below 900: n from 1 to 13; out 15 later.
        CHECKS.due("in just", lift.rode(13, 1), 870);
        CHECKS.due("out just", lift.rode(13, 2), 885);
        CHECKS.due("not in", lift.rode(14, 1), NONE);
        CHECKS.due("not out", lift.rode(14, 2), NONE);
        CHECKS.due("given", lift.rode(14, 0), 0);
        CHECKS.due("wait", lift.rode(14, 3), 900);
        CHECKS.due("out", lift.waits(3), 14);
        CHECKS.due("the first of the greatest", lift.waits(2), 14);
        CHECKS.due("no best of 24", lift.best(0, 0), NONE);
    }

    private static void neverOver() {
        // Over at 899 at the latest: nothing is done at 900.
        OldLift lift = new OldLift();
        lift.floors(2);
        lift.cars(1, 1, 9, 0);
        for (int i = 0; i < 7; i++) {
            lift.hold(300 + i, 0, 60);
        }
        lift.person(300, 0, 1);
        CHECKS.due("held six times, the first time it does not stand", lift.run(), 300 + 10 + 360 + 1);
        for (int i = 0; i < 6; i++) {
            lift.person(300, 0, 1);
        }
        // The others follow each 10 + 1 + 10 + 1 later.
        CHECKS.due("six more", lift.run(), 671 + 22 * 6);
        for (int i = 0; i < 4; i++) {
            lift.person(300, 0, 1);
        }
        CHECKS.due("ten more", lift.run(), 671 + 22 * 10);
        lift.hold(301, 0, 8);
        CHECKS.due("at 899", lift.run(), 899);
        lift.nobody();
        for (int i = 0; i < 6; i++) {
            lift.hold(301, 0, 60);
        }
        lift.hold(301, 0, 9);
        for (int i = 0; i < 11; i++) {
            lift.person(300, 0, 1);
        }
        CHECKS.due("900 is too late", lift.run(), NONE);
        CHECKS.due("the last one is in", lift.rode(10, 1), 889);
        CHECKS.due("and not out", lift.rode(10, 2), NONE);
    }

    /** That run is the one by all that is told now, whether run was called, and whenever it was. */
    private static void thatRun() {
        OldLift lift = new OldLift();
        CHECKS.due("nobody waits", lift.waits(0), NONE);
        CHECKS.due("nobody moves it", lift.moved(0, 0), 0);
        CHECKS.due("nor stops it", lift.stopped(0), 0);
        lift.person(0, 0, 1);
        ride(lift, 0, 0, 0, 3, 0);
        CHECKS.due("out, without a call of run", lift.waits(3), 1);
        CHECKS.due("moved, without a call of run", lift.moved(0, 0), 1);
        CHECKS.due("stopped, without a call of run", lift.stopped(0), 2);
        CHECKS.due("run", lift.run(), 3);
        CHECKS.due("one more", lift.person(0, 1, 3), 1);
        ride(lift, 1, 0, 3, 7, 3);
        CHECKS.due("best tells nothing", lift.best(2, 0), 7);
        CHECKS.due("whose", lift.waits(2), 1);
        CHECKS.due("out", lift.waits(3), 2);
        CHECKS.due("higher", lift.moved(0, 2), 1);
        CHECKS.due("one stop more", lift.stopped(0), 3);
        CHECKS.due("none such", lift.person(0, 1, 1), NONE);
        CHECKS.due("that is no person", lift.rode(2, 0), NONE);
    }

    /** Each thing that can be told between run and what is asked of it. */
    private static void thatRunByEach() {
        OldLift lift = new OldLift();
        lift.person(0, 0, 1);
        lift.person(0, 0, 3);
        CHECKS.due("run", lift.run(), 7);
        lift.hold(1, 0, 5);
        ride(lift, 0, 0, 0, 8, 0);
        lift.cars(2, 1, 0, 3);
        ride(lift, 0, 0, 0, 2, 0);
        ride(lift, 1, 0, 4, 8, 4);
        CHECKS.due("car 1 is there", lift.stopped(1), 0);
        CHECKS.due("it goes to its park", lift.moved(1, 2), 1);
        Texts.feed(lift, "0-idle");
        lift.rule();
        ride(lift, 1, 1, 0, 4, 0);
        CHECKS.due("car 1 stops", lift.stopped(1), 2);
        Texts.feed(lift, "0-idle-");
        CHECKS.due("a fault", lift.rule(), 1 + 16 * 7);
        CHECKS.due("the rule stays", lift.rode(1, 0), 1);
        Texts.feed(lift, " \n");
        CHECKS.due("blanks", lift.rule(), 0);
        CHECKS.due("no rule", lift.rode(1, 0), 0);
        lift.fire(1);
        ride(lift, 0, 0, 0, 1, 0);
        ride(lift, 1, 0, NONE, NONE, 900);
        CHECKS.due("sum", lift.waits(0), 900);
        CHECKS.due("out", lift.waits(3), 1);
        CHECKS.due("up and down again", lift.moved(1, 0), 2);
        lift.fire(NONE);
        ride(lift, 1, 0, 4, 8, 4);
        lift.cars(1, 1, 0, 3);
        CHECKS.due("car 1 is gone", lift.moved(1, 0), NONE);
        CHECKS.due("car 1 is gone", lift.stopped(1), NONE);
        lift.nobody();
        CHECKS.due("no person", lift.rode(0, 0), NONE);
        CHECKS.due("no person", lift.waits(3), NONE);
        CHECKS.due("nothing moves", lift.moved(0, 0), 0);
        CHECKS.due("no stop", lift.stopped(0), 0);
        lift.person(0, 0, 1);
        CHECKS.due("out", lift.rode(0, 2), 2);
        lift.floors(5);
        CHECKS.due("no person in the new house", lift.rode(0, 2), NONE);
        CHECKS.due("nothing moves", lift.moved(0, 3), 0);
        CHECKS.due("no stop", lift.stopped(0), 0);
    }

    private static void best() {
        OldLift lift = new OldLift();
        lift.cars(2, 1, 0, 0);
        lift.person(0, 0, 1);
        lift.person(0, 0, 3);
        lift.person(0, 0, 3);
        // Who waits for a second ride waits least behind the short one: either 1 or 2 rides alone.
        CHECKS.due("sum", lift.best(0, 0), 4);
        CHECKS.due("way", lift.best(0, 1), 2);
        CHECKS.due("greatest", lift.best(1, 0), 4);
        CHECKS.due("way", lift.best(1, 1), 2);
        CHECKS.due("end", lift.best(2, 0), 8);
        CHECKS.due("way", lift.best(2, 1), 2);
        for (int wrong : new int[] {-1, 3, LOW, HIGH}) {
            CHECKS.due("another aim", lift.best(wrong, 0), NONE);
            CHECKS.due("another what", lift.best(0, wrong), NONE);
        }
        CHECKS.due("another what", lift.best(0, 2), NONE);
        lift.cars(1, 1, 0, 0);
        CHECKS.due("one car alone", lift.best(0, 1), 0);
        lift.fire(0);
        lift.cars(2, 1, 0, 0);
        CHECKS.due("a fire", lift.best(0, 0), 2700);
        CHECKS.due("a fire's end", lift.best(2, 0), 0);
        CHECKS.due("the least as bits", lift.best(2, 1), 0);
    }

    private static void bestBounds() {
        OldLift lift = new OldLift();
        lift.cars(2, 8, 9, 0);
        CHECKS.due("nobody", lift.best(0, 0), NONE);
        for (int i = 0; i < 8; i++) {
            lift.person(i * 20, i % 4, 3 - i % 4);
        }
        CHECKS.yes("eight", lift.best(0, 0) >= 0);
        lift.person(0, 0, 1);
        CHECKS.due("nine", lift.best(0, 0), NONE);
        // One car, held for 480 ticks from 301 on, can't end eight rides by 899.
        OldLift late = new OldLift();
        late.floors(6);
        late.cars(1, 1, 9, 0);
        for (int i = 0; i < 8; i++) {
            late.person(300, i < 4 ? 0 : 5, i < 4 ? 5 : 0);
            late.hold(301, 0, 60);
        }
        CHECKS.due("never over", late.run(), NONE);
        CHECKS.due("none by aim 2", late.best(2, 0), NONE);
        CHECKS.due("none by aim 2", late.best(2, 1), NONE);
        CHECKS.yes("but by aim 0", late.best(0, 0) > 0);
        CHECKS.due("and 1", late.best(1, 1), 0);
    }
}
