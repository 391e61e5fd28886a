/** The bounds of promises 22 to 26, runs: a test for each sentence that names one. */
public final class BoundsRunTest {
    private static final Checks CHECKS = new Checks("BoundsRunTest");
    private static final int NONE = OldLift.NONE;
    private static final int LOW = Integer.MIN_VALUE;
    private static final int HIGH = Integer.MAX_VALUE;

    private BoundsRunTest() { }

    public static void main(String[] args) {
        atFirst();
        atFirstAgain();
        equalRules();
        inOrder();
        holdsWhileStanding();
        standing();
        roomBehindThoseWhoGetOut();
        getInInOrder();
        onlyThoseGiven();
        fullHasNoGoals();
        headings();
        park();
        ofNone();
        over899();
        waitOf900();
        fireGivesNobody();
        fireGoesDown();
        fireAtFloorZero();
        fireIsOver();
        fireAt899();
        factsOfCar();
        factsOfGoals();
        factsOfHeading();
        factsOfPerson();
        rodeWhat();
        waitsWhat();
        movedAndStopped();
        askedWithoutRun();
        toldBetween();
        CHECKS.end();
    }

    private static OldLift lift(int floors, int cars, int size, int doors, int park) {
        OldLift lift = new OldLift();
        CHECKS.yes("floors", lift.floors(floors));
        CHECKS.yes("cars", lift.cars(cars, size, doors, park));
        return lift;
    }

    private static void ride(OldLift lift, int person, int in, int out) {
        CHECKS.due("in of " + person, lift.rode(person, 1), in);
        CHECKS.due("out of " + person, lift.rode(person, 2), out);
    }

    private static void atFirst() {
        CHECKS.by("at first CARS are empty at FLOOR 0, heading nowhere, not STANDING.");
        String rule = "(load+floor+stops+not toward+not idle+not(far=from))*(1-car)-car*(load+floor+stops+not toward+not idle+not(far=from))";
        for (int from = 0; from < 4; from++) {
            OldLift lift = lift(4, 2, 1, 1, 3);
            CHECKS.due("rule", Texts.readRule(lift, rule), 0);
            lift.person(0, from, from == 0 ? 3 : 0);
            CHECKS.due("both are as told", lift.rode(0, 0), 0);
            CHECKS.due("and go at once", lift.rode(0, 1), from);
        }
        OldLift lift = lift(4, 1, 1, 9, 3);
        lift.person(0, 1, 0);
        lift.hold(0, 0, 60);
        CHECKS.due("not standing", lift.rode(0, 1), 1);
    }

    /** However the run ahead of it ended. */
    private static void atFirstAgain() {
        CHECKS.by("A RUN: at first CARS are empty at FLOOR 0, heading nowhere, not STANDING.");
        OldLift down = lift(4, 2, 4, 9, 0);
        down.person(0, 3, 0);
        down.person(0, 3, 1);
        CHECKS.due("down to 1, then to 0", down.run(), 26);
        down.nobody();
        down.person(0, 3, 0);
        Texts.readRule(down, "not toward*(1-car)");
        CHECKS.due("heading nowhere", down.rode(0, 0), 0);
        CHECKS.due("in", down.rode(0, 1), 3);
        OldLift never = late(195);
        CHECKS.due("one is in it when it is never over", never.run(), NONE);
        never.nobody();
        never.person(0, 1, 0);
        CHECKS.due("it is empty, at floor 0, not standing", never.rode(0, 1), 1);
        CHECKS.due("over", never.run(), 12);
        CHECKS.due("moved", never.moved(0, 0), 2);
        CHECKS.due("moved", never.moved(0, 4), 0);
        CHECKS.due("stops", never.stopped(0), 2);
        OldLift other = lift(4, 1, 1, 0, 0);
        other.person(0, 1, 2);
        CHECKS.due("from 1 to 2", other.run(), 3);
        other.nobody();
        other.person(0, 3, 0);
        ride(other, 0, 3, 7);
        CHECKS.due("stops", other.stopped(0), 2);
    }

    private static void equalRules() {
        CHECKS.by("GIVEN, in order, to the CAR with the least RULE (0 without one; of equal ones CAR 0).");
        String[][] rules = {{"", "0"}, {"0", "0"}, {"7", "0"}, {"0-7", "0"}, {"car", "0"}, {"0-car", "1"}, {"1-car", "1"},
            {"car-1", "0"}, {"car*9999", "0"}, {"car=1", "0"}, {"car=0", "1"}, {"far", "0"}};
        for (String[] rule : rules) {
            OldLift lift = lift(4, 2, 4, 1, 0);
            CHECKS.due("rule", Texts.readRule(lift, rule[0]), 0);
            lift.person(0, 0, 1);
            CHECKS.due("by " + rule[0], lift.rode(0, 0), Integer.parseInt(rule[1]));
            lift.cars(1, 4, 1, 0);
            CHECKS.due("one car, by " + rule[0], lift.rode(0, 0), 0);
        }
    }

    private static void inOrder() {
        CHECKS.by("(1) PERSONS who come are GIVEN, in order");
        OldLift lift = lift(4, 2, 4, 1, 0);
        Texts.readRule(lift, "stops");
        long[] cars = {0, 1, 0, 1};
        for (int i = 0; i < 4; i++) {
            lift.person(0, i, (i + 1) % 4);
        }
        for (int i = 0; i < 4; i++) {
            CHECKS.due("person " + i, lift.rode(i, 0), cars[i]);
        }
        // Who comes later is given later, whatever his number.
        OldLift late = lift(4, 2, 4, 1, 0);
        Texts.readRule(late, "stops");
        late.person(1, 2, 3);
        late.person(0, 3, 0);
        CHECKS.due("the second one first", late.rode(1, 0), 0);
        CHECKS.due("then the first one", late.rode(0, 0), 1);
    }

    private static void holdsWhileStanding() {
        CHECKS.by("(2) HOLDS told for this TIME, in order: a CAR that is STANDING is so for so many ticks more.");
        // It stops at 0, stands at 1 and 2, goes at 3, stops at 4.
        long[] over = {4, 9, 9, 4, 4, 4};
        for (int time = 0; time < over.length; time++) {
            OldLift lift = lift(4, 1, 4, 2, 0);
            lift.person(0, 0, 1);
            CHECKS.due("without", lift.run(), 4);
            lift.hold(time, 0, 5);
            CHECKS.due("held at " + time, lift.run(), over[time]);
        }
        OldLift lift = lift(4, 1, 4, 2, 0);
        lift.person(0, 0, 1);
        lift.hold(2, 0, 1);
        lift.hold(3, 0, 1);
        lift.hold(4, 0, 1);
        CHECKS.due("each while the one ahead holds it", lift.run(), 7);
        lift.hold(6, 0, 60);
        CHECKS.due("one too late", lift.run(), 7);
        lift.hold(4, 0, 2);
        lift.hold(4, 0, 3);
        CHECKS.due("all of one time, and then it is not too late", lift.run(), 7 + 5 + 60);
        OldLift none = lift(4, 1, 4, 0, 0);
        none.person(0, 0, 1);
        none.hold(0, 0, 60);
        none.hold(1, 0, 60);
        CHECKS.due("without doors it never stands", none.run(), 2);
    }

    private static void standing() {
        CHECKS.by("if it is STANDING it is so for one tick less");
        // Who comes while it stands waits till it stands no more; it stops anew then.
        for (int comes = 0; comes <= 5; comes++) {
            OldLift lift = lift(4, 1, 4, 3, 0);
            lift.person(0, 0, 1);
            lift.person(comes, 0, 1);
            CHECKS.due("stops", lift.rode(0, 1), 0);
            CHECKS.due("in, of who came at " + comes, lift.rode(1, 1), comes == 0 ? 0 : comes <= 4 ? 4 : 10);
            CHECKS.due("out, of who came at " + comes, lift.rode(1, 2), comes == 0 ? 5 : comes <= 4 ? 9 : 15);
        }
        CHECKS.by("and it is STANDING for DOORS ticks");
        for (int doors = 0; doors <= 9; doors++) {
            OldLift lift = lift(2, 1, 1, doors, 0);
            lift.person(0, 0, 1);
            lift.person(0, 1, 0);
            ride(lift, 0, 0, doors + 2);
            ride(lift, 1, doors + 2, 2 * doors + 4);
            CHECKS.due("over", lift.run(), 2 * doors + 4);
        }
    }

    private static void roomBehindThoseWhoGetOut() {
        CHECKS.by("or one GIVEN to it waits there and it has room behind those who get out, it STOPS");
        for (int size = 1; size <= 8; size++) {
            // Full, nobody gets out at 1: it passes. Its second way is empty.
            OldLift full = lift(3, 1, size, 0, 0);
            for (int i = 0; i < size; i++) {
                full.person(0, 0, 2);
            }
            full.person(0, 1, 0);
            ride(full, size, 5, 7);
            CHECKS.due("stops", full.stopped(0), 4);
            // One gets out there: who waits takes his room.
            OldLift swap = lift(3, 1, size, 0, 0);
            for (int i = 0; i < size; i++) {
                swap.person(0, 0, i == 0 ? 1 : 2);
            }
            swap.person(0, 1, 2);
            swap.person(0, 1, 2);
            CHECKS.due("out", swap.rode(0, 2), 2);
            CHECKS.due("one in", swap.rode(size, 1), 2);
            CHECKS.due("the other one not", swap.rode(size + 1, 1), 6);
            // One room is left: it stops.
            OldLift room = lift(3, 1, size, 0, 0);
            for (int i = 1; i < size; i++) {
                room.person(0, 0, 2);
            }
            room.person(0, 1, 2);
            CHECKS.due("in", room.rode(size - 1, 1), size == 1 ? 1 : 2);
        }
    }

    private static void getInInOrder() {
        CHECKS.by("then those GIVEN who wait there get in, in order, as long as there is room");
        OldLift lift = lift(2, 1, 3, 0, 0);
        for (int i = 0; i < 7; i++) {
            lift.person(0, 0, 1);
        }
        for (int i = 0; i < 7; i++) {
            ride(lift, i, i / 3 * 4, i / 3 * 4 + 2);
        }
        CHECKS.due("stops", lift.stopped(0), 6);
        CHECKS.due("over", lift.run(), 10);
    }

    private static void onlyThoseGiven() {
        CHECKS.by("one GIVEN to it waits there");
        OldLift lift = lift(4, 2, 4, 0, 0);
        Texts.readRule(lift, "(from=1)*(1-car)-(from=0)*(1-car)");
        lift.person(0, 0, 3);
        lift.person(0, 1, 3);
        CHECKS.due("car 0", lift.rode(0, 0), 0);
        CHECKS.due("car 1", lift.rode(1, 0), 1);
        CHECKS.due("car 0 does not stop for him", lift.stopped(0), 2);
        ride(lift, 0, 0, 4);
        ride(lift, 1, 1, 4);
        CHECKS.due("nor does the other", lift.stopped(1), 2);
    }

    private static void fullHasNoGoals() {
        CHECKS.by("its GOALS are where those in it wish, and, unless it is full, where those GIVEN to it wait.");
        // With room it turns up for who waits at 3; full it goes down first. At 5 it is at floor 2.
        for (int size = 1; size <= 2; size++) {
            OldLift lift = lift(4, 1, size, 0, 2);
            lift.person(5, 2, 0);
            lift.person(5, 3, 0);
            CHECKS.due("in", lift.rode(0, 1), 5);
            CHECKS.due("it goes up for the nearer one if it has room", lift.rode(1, 1), size == 1 ? 12 : 7);
            CHECKS.due("out", lift.rode(0, 2), size == 1 ? 8 : 11);
        }
    }

    private static void headings() {
        CHECKS.by("With GOALS it keeps its heading if one lies that way");
        OldLift keeps = lift(6, 1, 8, 0, 0);
        keeps.person(0, 0, 5);
        keeps.person(3, 1, 0);
        ride(keeps, 0, 0, 6);
        ride(keeps, 1, 11, 13);
        OldLift turns = lift(6, 1, 8, 0, 0);
        turns.person(0, 0, 2);
        turns.person(3, 1, 0);
        ride(turns, 0, 0, 3);
        ride(turns, 1, 5, 7);
        // Down from 5 with one for 0: at 8 it is at floor 3, and one comes at 4, or at 5.
        for (int from = 3; from < 6; from++) {
            OldLift down = lift(6, 1, 8, 0, 0);
            down.person(0, 5, 0);
            down.person(8, from, 0);
            ride(down, 0, 5, from == 3 ? 12 : 11);
            CHECKS.due("in", down.rode(1, 1), from == 3 ? 8 : 12 + from);
        }
        CHECKS.by("else it heads to the nearest one (up, of equal ones)");
        // At 20 it is at floor 3, heading nowhere.
        int[][] rows = {{2, 4, 1}, {1, 5, 1}, {2, 5, 0}, {1, 4, 1}, {0, 5, 1}};
        for (int[] row : rows) {
            OldLift lift = lift(6, 1, 8, 0, 3);
            lift.person(20, row[0], 3);
            lift.person(20, row[1], 3);
            int nearest = row[2] == 1 ? row[1] : row[0];
            CHECKS.due("to the nearest", lift.rode(row[2], 1), 20 + Math.abs(nearest - 3));
            CHECKS.yes("the other one later", lift.rode(1 - row[2], 1) > lift.rode(row[2], 1));
        }
    }

    private static void park() {
        CHECKS.by("Without any it heads nowhere, and goes one FLOOR to its PARK, if it is not there.");
        for (int at = 0; at < 6; at++) {
            for (int comes = 0; comes < 8; comes++) {
                OldLift lift = lift(6, 1, 1, 0, at);
                lift.person(comes, 0, 5);
                int floor = Math.min(comes, at);
                CHECKS.due("it is on its way, or there", lift.rode(0, 1), comes + floor);
                CHECKS.due("passed up and down", lift.moved(0, 0), floor == 0 ? 1 : 3);
            }
        }
        // Back from floor 5 to a park below, a floor each tick: out at 6, at floor 5 - n behind tick 6 + n.
        for (int n = 1; n < 6; n++) {
            OldLift lift = lift(6, 1, 1, 0, 0);
            lift.person(0, 0, 5);
            lift.person(7 + n, 5 - n, 5);
            CHECKS.due("just there", lift.rode(1, 1), 7 + n);
        }
    }

    private static void ofNone() {
        CHECKS.by("It is over at the TIME at which all PERSONS are out (END; of none 0, and nothing moves)");
        OldLift lift = lift(4, 2, 4, 1, 3);
        lift.hold(0, 0, 60);
        for (int fire : new int[] {NONE, 0, 1, 899}) {
            lift.fire(fire);
            CHECKS.due("over", lift.run(), 0);
            for (int car = 0; car < 2; car++) {
                CHECKS.due("no stop", lift.stopped(car), 0);
                for (int part = 0; part < 3; part++) {
                    CHECKS.due("not moved", lift.moved(car, part), 0);
                }
            }
            CHECKS.due("nobody waits", lift.waits(0), NONE);
        }
        lift.fire(NONE);
        lift.person(2, 0, 1);
        CHECKS.due("one: down from 2, up to 1", lift.run(), 7);
        CHECKS.due("it moves", lift.moved(1, 2), 1);
        // The last one out ends it, and what would come then does not count.
        OldLift two = lift(4, 2, 4, 0, 3);
        two.person(0, 0, 1);
        CHECKS.due("over", two.run(), 2);
        CHECKS.due("car 1 went up at 0, 1 and 2", two.moved(1, 2), 1);
        CHECKS.due("car 0 goes no further", two.moved(0, 1), 0);
    }

    /** 24 persons, one by one, from 0 to 5 in 30 ticks each; holds at 1 put it all off by so many ticks. */
    private static OldLift late(int held) {
        OldLift lift = lift(6, 1, 1, 9, 0);
        for (int i = 0; i < 24; i++) {
            lift.person(0, 0, 5);
        }
        for (int left = held; left > 0; left -= 60) {
            CHECKS.yes("hold", lift.hold(1, 0, Math.min(left, 60)));
        }
        return lift;
    }

    private static void over899() {
        CHECKS.by("or else at 900: never.");
        CHECKS.due("none held", late(0).run(), 705);
        CHECKS.due("at 898", late(193).run(), 898);
        OldLift last = late(194);
        CHECKS.due("at 899", last.run(), 899);
        CHECKS.due("the last one is out", last.rode(23, 2), 899);
        CHECKS.due("all are out", last.waits(3), 24);
        CHECKS.due("stops", last.stopped(0), 48);
        OldLift never = late(195);
        CHECKS.due("900 is too late", never.run(), NONE);
        CHECKS.due("the last one is in", never.rode(23, 1), 885);
        CHECKS.due("and not out", never.rode(23, 2), NONE);
        CHECKS.due("23 are out", never.waits(3), 23);
        CHECKS.due("stops", never.stopped(0), 47);
        CHECKS.due("the last floor is passed at 899", never.moved(0, 4), 47);
        OldLift one = late(196);
        CHECKS.due("at 900 it is not", one.moved(0, 4), 46);
        CHECKS.due("the one below is", one.moved(0, 3), 47);
        CHECKS.due("never", one.run(), NONE);
    }

    private static void waitOf900() {
        CHECKS.by("WAIT of a PERSON: TIME in, less TIME of coming; 900 without one.");
        OldLift last = late(209);
        CHECKS.due("in at 899", last.rode(23, 1), 899);
        CHECKS.due("wait", last.rode(23, 3), 899);
        CHECKS.due("the greatest", last.waits(1), 899);
        CHECKS.due("whose", last.waits(2), 23);
        OldLift never = late(210);
        CHECKS.due("not in", never.rode(23, 1), NONE);
        CHECKS.due("wait", never.rode(23, 3), 900);
        CHECKS.due("given", never.rode(23, 0), 0);
        CHECKS.due("the greatest", never.waits(1), 900);
        CHECKS.due("whose", never.waits(2), 23);
        OldLift more = late(240);
        CHECKS.due("the first of them", more.waits(2), 22);
        CHECKS.due("two of 900", more.waits(0), 900 * 2 + 21 * 240 + 30 * (21 * 22 / 2));
        OldLift comes = lift(4, 1, 1, 0, 0);
        comes.person(300, 3, 0);
        CHECKS.due("from when he came", comes.rode(0, 3), 3);
        comes.fire(300);
        CHECKS.due("never in, however late he came", comes.rode(0, 3), 900);
    }

    private static void fireGivesNobody() {
        CHECKS.by("in (1) nobody is GIVEN");
        for (int fire = 19; fire <= 21; fire++) {
            OldLift lift = lift(4, 1, 4, 1, 0);
            lift.person(20, 3, 0);
            lift.fire(fire);
            CHECKS.due("fire at " + fire, lift.rode(0, 0), fire <= 20 ? NONE : 0);
            CHECKS.due("not in", lift.rode(0, 1), NONE);
            CHECKS.due("wait", lift.rode(0, 3), 900);
            // Behind the time at which it comes it has gone a floor up, and goes back.
            CHECKS.due("over", lift.run(), fire);
            CHECKS.due("passed", lift.moved(0, 0), fire <= 20 ? 0 : 2);
        }
    }

    private static void fireGoesDown() {
        CHECKS.by("in (3) a CAR that is not STANDING goes one FLOOR down");
        // In at 0, it stands at 1, goes up at 2, 3, 4 and would stop at 5.
        long[] over = {0, 2, 2, 4, 6, 8, 5, 5};
        for (int fire = 0; fire < over.length; fire++) {
            OldLift lift = lift(4, 1, 4, 1, 0);
            lift.person(0, 0, 3);
            lift.fire(fire);
            CHECKS.due("fire at " + fire, lift.run(), over[fire]);
            CHECKS.due("out", lift.rode(0, 2), fire == 0 ? NONE : over[fire]);
            int top = fire < 3 ? 0 : Math.min(fire - 2, 3);
            CHECKS.due("up and down", lift.moved(0, 0), top == 0 ? 0 : fire > 5 ? 1 : 2);
            CHECKS.due("no higher than 2", lift.moved(0, 2), top < 3 ? 0 : fire > 5 ? 1 : 2);
            CHECKS.due("stops", lift.stopped(0), fire == 0 ? 0 : fire > 5 ? 2 : 1);
        }
        // It is standing at 3 from 5 on, by doors of 9, when the fire begins; a hold holds it still.
        OldLift stands = lift(4, 1, 4, 9, 0);
        stands.person(0, 0, 3);
        stands.person(0, 3, 0);
        CHECKS.due("out and in", stands.rode(1, 1), 13);
        stands.fire(14);
        CHECKS.due("it stands until 22, goes down at 23, 24, 25", stands.run(), 26);
        stands.hold(20, 0, 4);
        CHECKS.due("held", stands.run(), 30);
        stands.hold(27, 0, 60);
        CHECKS.due("no longer standing", stands.run(), 30);
    }

    private static void fireAtFloorZero() {
        CHECKS.by("at FLOOR 0 all get out of it (it does not stand for that, nor go then).");
        OldLift lift = lift(4, 2, 8, 1, 3);
        Texts.readRule(lift, "car");
        for (int i = 0; i < 8; i++) {
            lift.person(0, 0, 1 + i % 3);
        }
        lift.fire(2);
        // Car 0 stands at 1, all get out at 2; car 1 has gone up at 0 and 1, goes down at 2.
        CHECKS.due("all are out", lift.run(), 2);
        for (int i = 0; i < 8; i++) {
            ride(lift, i, 0, 2);
        }
        CHECKS.due("all got out", lift.waits(3), 8);
        CHECKS.due("it does not go", lift.moved(0, 0), 0);
        CHECKS.due("that is no stop", lift.stopped(0), 1);
        CHECKS.due("car 1", lift.moved(1, 0), 1);
        CHECKS.due("car 1", lift.moved(1, 1), 2);
        CHECKS.due("car 1", lift.moved(1, 2), 0);
        // At floor 0 by its last floor down it gets empty at the next time only.
        OldLift next = lift(2, 1, 1, 0, 0);
        next.person(0, 0, 1);
        next.fire(2);
        CHECKS.due("down at 2, out at 3", next.run(), 3);
        CHECKS.due("out", next.rode(0, 2), 3);
    }

    private static void fireIsOver() {
        CHECKS.by("It is over, too, at the TIME from then on at which all CARS are empty at FLOOR 0.");
        OldLift lift = lift(4, 2, 4, 1, 0);
        lift.person(300, 0, 1);
        for (int fire : new int[] {0, 1, 299, 300}) {
            lift.fire(fire);
            CHECKS.due("at once", lift.run(), fire);
            CHECKS.due("not given", lift.rode(0, 0), NONE);
        }
        lift.fire(301);
        CHECKS.due("he is in: it stands at 301", lift.run(), 302);
        lift.fire(304);
        CHECKS.due("all are out ahead of it", lift.run(), 303);
        // Both must be down: two of three floors are gone up at 2.
        OldLift two = lift(4, 2, 4, 1, 3);
        two.person(300, 0, 1);
        two.fire(2);
        CHECKS.due("down at 2 and 3", two.run(), 3);
        two.fire(200);
        CHECKS.due("down at 200, 201, 202", two.run(), 202);
        // One who stands at floor 0, empty, is empty at floor 0.
        OldLift stands = lift(4, 1, 4, 9, 0);
        stands.person(0, 1, 0);
        stands.person(100, 0, 1);
        CHECKS.due("out", stands.rode(0, 2), 12);
        stands.fire(13);
        CHECKS.due("at once", stands.run(), 13);
        stands.fire(12);
        CHECKS.due("it lets out at floor 0", stands.run(), 12);
        CHECKS.due("no second stop", stands.stopped(0), 1);
    }

    private static void fireAt899() {
        CHECKS.by("FIRE from a TIME (0 to 899) on");
        OldLift lift = late(210);
        CHECKS.due("never", lift.run(), NONE);
        lift.fire(899);
        CHECKS.due("its last floor down at 899", lift.run(), 899);
        CHECKS.due("the last one is not in", lift.rode(23, 1), NONE);
        OldLift filled = late(209);
        filled.fire(899);
        CHECKS.due("at floor 0, empty, though one waits", filled.run(), 899);
        CHECKS.due("he does not get in", filled.rode(23, 1), NONE);
        OldLift higher = late(211);
        higher.fire(899);
        CHECKS.due("one floor too high", higher.run(), NONE);
        // Where it would have been at floor 5 at 899: it has to go down five floors and let out.
        OldLift top = late(195);
        top.fire(893);
        CHECKS.due("it stands till 894 at floor 0, lets out at 895", top.run(), 895);
        top.fire(897);
        CHECKS.due("two floors up at 896, down at 897 and 898, out at 899", top.run(), 899);
        CHECKS.due("he is out at floor 0", top.rode(23, 2), 899);
        top.fire(898);
        CHECKS.due("too late", top.run(), NONE);
        CHECKS.due("not out", top.rode(23, 2), NONE);
    }

    /** The rule gives all to car 0, but who comes at the time to car 1 if this is so of car 0. */
    private static void ofCarZero(OldLift lift, String so, int time, int person, boolean due) {
        Texts.readRule(lift, "(1-car)*(time=" + time + ")*(" + so + ")");
        CHECKS.due(so + " of car 0 at " + time, lift.rode(person, 0), due ? 1 : 0);
    }

    /** The fact has this value, and neither of those beside it. */
    private static void fact(OldLift lift, String name, int time, int person, int value) {
        ofCarZero(lift, name + "=" + value, time, person, true);
        ofCarZero(lift, name + "<" + value, time, person, false);
        ofCarZero(lift, name + "<" + (value + 1), time, person, true);
    }

    /** Car 0 carries one from 0 to 5, at 3 it is at floor 2; then somebody comes. */
    private static OldLift midway(int size, int from, int to) {
        OldLift lift = lift(6, 2, size, 0, 0);
        lift.person(0, 0, 5);
        lift.person(3, from, to);
        return lift;
    }

    private static void factsOfCar() {
        CHECKS.by("far (FLOORS between it and the PERSON), load (who is in it)");
        for (int from = 0; from < 6; from++) {
            OldLift lift = midway(8, from, from == 0 ? 1 : 0);
            fact(lift, "far", 3, 1, Math.abs(from - 2));
            fact(lift, "floor", 3, 1, 2);
            fact(lift, "load", 3, 1, 1);
        }
        for (int load = 0; load <= 8; load++) {
            OldLift lift = lift(6, 2, 8, 0, 0);
            for (int i = 0; i < load; i++) {
                lift.person(0, 0, 5);
            }
            lift.person(3, 0, 5);
            fact(lift, "load", 3, load, load);
        }
        OldLift far = lift(6, 2, 8, 0, 5);
        far.person(20, 0, 1);
        fact(far, "far", 20, 0, 5);
        fact(far, "floor", 20, 0, 5);
        fact(far, "load", 20, 0, 0);
    }

    private static void factsOfGoals() {
        CHECKS.by("stops (FLOORS that are GOALS of it)");
        // With room those who wait at 4 count as one floor; full they do not.
        for (int size = 1; size <= 2; size++) {
            OldLift lift = lift(6, 2, size, 0, 0);
            lift.person(0, 0, 5);
            lift.person(1, 4, 5);
            lift.person(1, 4, 0);
            lift.person(2, 5, 0);
            lift.person(3, 0, 1);
            fact(lift, "stops", 3, 4, size);
        }
        OldLift most = lift(6, 2, 8, 0, 0);
        for (int i = 0; i < 6; i++) {
            most.person(0, i, (i + 1) % 6);
        }
        most.person(0, 0, 5);
        Texts.readRule(most, "(1-car)*(to=5)*(from=0)*(stops=6)");
        CHECKS.due("all six floors, the one where it is, too", most.rode(6, 0), 1);
        CHECKS.by("idle (1 if it has no GOAL)");
        OldLift idle = lift(6, 2, 8, 0, 5);
        idle.person(3, 0, 1);
        fact(idle, "idle", 3, 0, 1);
        fact(idle, "stops", 3, 0, 0);
        OldLift busy = midway(1, 0, 1);
        fact(busy, "idle", 3, 1, 0);
        fact(busy, "stops", 3, 1, 1);
        OldLift given = lift(6, 2, 8, 0, 0);
        given.person(0, 0, 1);
        given.person(0, 0, 2);
        Texts.readRule(given, "(1-car)*(to=2)*not idle");
        CHECKS.due("one given at the same time is a goal", given.rode(1, 0), 1);
    }

    private static void factsOfHeading() {
        CHECKS.by("toward (1 if it heads nowhere, or the PERSON's FLOOR is not behind it, else 0)");
        for (int from = 0; from < 6; from++) {
            OldLift up = midway(8, from, from == 0 ? 1 : 0);
            fact(up, "toward", 3, 1, from >= 2 ? 1 : 0);
            // From floor 5 down to 0 with one: at 8 it is at floor 3.
            OldLift down = lift(6, 2, 8, 0, 0);
            down.person(0, 5, 0);
            down.person(8, from, from == 0 ? 1 : 0);
            fact(down, "floor", 8, 1, 3);
            fact(down, "toward", 8, 1, from <= 3 ? 1 : 0);
            // On its way to its park it heads nowhere.
            OldLift parks = lift(6, 2, 8, 0, 5);
            parks.person(3, from, from == 0 ? 1 : 0);
            fact(parks, "floor", 3, 0, 3);
            fact(parks, "toward", 3, 0, 1);
        }
        // Out at 5 at 15, it stands till 24 and keeps its heading; at 25 it goes without a goal.
        for (int time = 15; time <= 27; time++) {
            OldLift stands = lift(6, 2, 8, 9, 5);
            stands.person(0, 0, 5);
            stands.person(time, 0, 1);
            fact(stands, "floor", time, 1, 5);
            fact(stands, "toward", time, 1, time <= 25 ? 0 : 1);
            fact(stands, "idle", time, 1, time == 15 ? 0 : 1);
        }
    }

    private static void factsOfPerson() {
        CHECKS.by("car (its number); of the PERSON: from, to; time.");
        for (int n = 0; n < 6; n++) {
            OldLift lift = lift(6, 2, 8, 0, 0);
            lift.person(7, n, (n + 1) % 6);
            fact(lift, "from", 7, 0, n);
            fact(lift, "to", 7, 0, (n + 1) % 6);
            fact(lift, "car", 7, 0, 0);
        }
        for (int time : new int[] {0, 1, 299, 300}) {
            OldLift lift = lift(6, 2, 8, 0, 0);
            lift.person(time, 0, 1);
            fact(lift, "time", time, 0, time);
            Texts.readRule(lift, "0-(car=1)*(time=" + time + ")");
            CHECKS.due("car 1 is 1", lift.rode(0, 0), 1);
        }
    }

    private static void rodeWhat() {
        CHECKS.by("Of a PERSON in that RUN, what 0: the CAR, 1: TIME in, 2: TIME out, 3: WAIT; NONE: none such, never (0: not GIVEN; 3: 900).");
        OldLift lift = lift(4, 2, 4, 1, 0);
        Texts.readRule(lift, "0-car*(from=2)");
        lift.person(0, 0, 1);
        lift.person(4, 2, 3);
        lift.person(30, 1, 0);
        lift.person(40, 1, 0);
        lift.fire(31);
        long[][] due = {{0, 0, 3, 0}, {1, 6, 9, 2}, {0, NONE, NONE, 900}, {NONE, NONE, NONE, 900}};
        for (int person = 0; person < 4; person++) {
            for (int what = 0; what < 4; what++) {
                CHECKS.due("rode " + person + " " + what, lift.rode(person, what), due[person][what]);
            }
            for (int what : new int[] {LOW, -1, 4, 5, HIGH}) {
                CHECKS.due("another what", lift.rode(person, what), NONE);
            }
        }
        for (int person : new int[] {LOW, -1, 4, 5, 24, 25, HIGH}) {
            for (int what = 0; what < 4; what++) {
                CHECKS.due("no such person", lift.rode(person, what), NONE);
            }
        }
    }

    private static void waitsWhat() {
        CHECKS.by("Of that RUN, what 0: the sum of WAITS, 1: the greatest, 2: the first PERSON with it, 3: how many got out; NONE: no PERSON, another what.");
        OldLift lift = lift(4, 1, 4, 0, 0);
        for (int what = -1; what < 5; what++) {
            CHECKS.due("nobody", lift.waits(what), NONE);
        }
        lift.person(0, 0, 3);
        long[] one = {0, 0, 0, 1};
        for (int what = 0; what < 4; what++) {
            CHECKS.due("one", lift.waits(what), one[what]);
        }
        // Both are in at 2, when it is at floor 1: of equal waits the first one.
        lift.person(0, 1, 3);
        lift.person(0, 1, 2);
        long[] three = {4, 2, 1, 3};
        for (int what = 0; what < 4; what++) {
            CHECKS.due("three", lift.waits(what), three[what]);
        }
        for (int what : new int[] {LOW, -1, 4, 5, HIGH}) {
            CHECKS.due("another what", lift.waits(what), NONE);
        }
    }

    private static void movedAndStopped() {
        CHECKS.by("How often a CAR passed between the FLOORS s and s + 1 in that RUN; NONE: no such CAR (there), PART.");
        OldLift lift = lift(6, 1, 4, 0, 0);
        lift.person(0, 3, 4);
        long[] parts = {1, 1, 1, 1, 0};
        for (int part = 0; part < 5; part++) {
            CHECKS.due("part " + part, lift.moved(0, part), parts[part]);
            CHECKS.due("car 1 is not there", lift.moved(1, part), NONE);
        }
        for (int wrong : new int[] {LOW, -1, 5, 6, HIGH}) {
            CHECKS.due("no such part", lift.moved(0, wrong), NONE);
        }
        CHECKS.by("How often a CAR STOPPED in that RUN; NONE: no such CAR.");
        CHECKS.due("stops", lift.stopped(0), 2);
        CHECKS.due("car 1 is not there", lift.stopped(1), NONE);
        lift.cars(2, 4, 0, 0);
        CHECKS.due("car 1", lift.stopped(1), 0);
        CHECKS.due("car 1", lift.moved(1, 4), 0);
        for (int car : new int[] {LOW, -1, 2, 3, HIGH}) {
            CHECKS.due("no such car", lift.moved(car, 0), NONE);
            CHECKS.due("no such car", lift.stopped(car), NONE);
        }
    }

    /** One who rides from 1 to 0, and asks one question alone. */
    private static OldLift asked() {
        OldLift lift = lift(4, 2, 4, 1, 2);
        lift.person(5, 1, 0);
        return lift;
    }

    private static void askedWithoutRun() {
        CHECKS.by("The RUN by all that is told now: the TIME at which it is over; NONE: never.");
        // Both cars are at floor 2 at 5; car 0 goes to 1, lets in at 6, goes to 0 at 8.
        CHECKS.due("run", asked().run(), 9);
        CHECKS.due("car", asked().rode(0, 0), 0);
        CHECKS.due("in", asked().rode(0, 1), 6);
        CHECKS.due("out", asked().rode(0, 2), 9);
        CHECKS.due("wait", asked().rode(0, 3), 1);
        CHECKS.due("sum", asked().waits(0), 1);
        CHECKS.due("out", asked().waits(3), 1);
        CHECKS.due("moved", asked().moved(0, 0), 2);
        CHECKS.due("moved", asked().moved(1, 1), 1);
        CHECKS.due("stopped", asked().stopped(0), 2);
        CHECKS.due("stopped", asked().stopped(1), 0);
    }

    /** The n-th thing that can be told of a run. */
    private static void tell(OldLift lift, int n) {
        switch (n) {
            case 0: lift.person(2, 3, 0); break;
            case 1: lift.hold(2, 0, 30); break;
            case 2: lift.fire(4); break;
            case 3: lift.fire(NONE); break;
            case 4: lift.cars(2, 1, 2, 1); break;
            case 5: Texts.readRule(lift, "stops-car"); break;
            case 6: lift.rule(); break;
            case 7: lift.nobody(); break;
            default: lift.floors(4); break;
        }
    }

    private static OldLift toldOf(int a, int b, boolean asks) {
        OldLift lift = lift(4, 2, 4, 3, 0);
        lift.person(0, 0, 3);
        lift.person(0, 1, 2);
        if (asks) {
            lift.run();
            lift.best(0, 0);
        }
        tell(lift, a);
        tell(lift, b);
        return lift;
    }

    private static void toldBetween() {
        CHECKS.by("The RUN by all that is told now");
        for (int a = 0; a < 9; a++) {
            for (int b = 0; b < 9; b++) {
                CHECKS.same("told " + a + " and " + b, Portrait.of(toldOf(a, b, true)), Portrait.of(toldOf(a, b, false)));
            }
        }
    }
}
