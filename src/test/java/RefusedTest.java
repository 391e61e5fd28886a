import java.util.NoSuchElementException;
import java.util.function.ToLongFunction;

/**
 * Calls that are refused: each is asked of a new object of which much is told, just outside each bound
 * and far off; its answer must be the one that is due, and all must be as it was.
 */
public final class RefusedTest {
    private static final Checks CHECKS = new Checks("RefusedTest");
    private static final int NONE = OldLift.NONE;
    private static final int LOW = Integer.MIN_VALUE;
    private static final int HIGH = Integer.MAX_VALUE;
    private static final long THROWN = Long.MIN_VALUE;
    private static final int FLOORS = 5;

    private RefusedTest() { }

    public static void main(String[] args) {
        questionsChangeNothing();
        floors();
        press();
        look();
        never();
        forgets();
        stuck();
        cars();
        person();
        hold();
        fire();
        askedOfRuns();
        rope();
        askedOfRope();
        count();
        full();
        faults();
        CHECKS.end();
    }

    /** Five floors; a circuit, two ticks behind start; a rule; all else is told, too, a text not yet read. */
    private static OldLift busy() {
        OldLift lift = Texts.liftWith(FLOORS, "relay a=any or a and not open;relay b=a;up=call 1+call 2*b;down=call 0;"
            + "door=a*(1-any);lamp 0=a;lamp 3=at 2;lamp 7=b;never at 2;never open*at 1;never at 4 and at 3;");
        Texts.readRule(lift, "far+load*2-toward");
        lift.press(1);
        lift.press(2);
        lift.stuck(129);
        lift.tried(1, 129);
        lift.cars(2, 2, 1, 3);
        lift.person(0, 0, 4);
        lift.person(1, 2, 0);
        lift.person(1, 4, 3);
        lift.person(9, 1, 0);
        lift.hold(2, 0, 3);
        lift.hold(5, 1, 2);
        lift.fire(10);
        lift.trip(0, 4, 100);
        lift.trip(3, 1, 57);
        lift.trip(2, 3, 9);
        lift.gauge(0, 10);
        lift.gauge(1, 160);
        lift.gauge(2, 30);
        Texts.feed(lift, "up=1; down=call 3; $");
        return lift;
    }

    private static void questionsChangeNothing() {
        OldLift lift = busy();
        String ahead = Portrait.of(lift);
        CHECKS.same("all but the tape, asked again", Portrait.of(lift), ahead);
        CHECKS.due("the tape is there still", lift.circuit(), 1 + 16 * 19);
        CHECKS.yes("thought is something", ahead.contains("thought0=2 ") && ahead.contains("thought3=18 "));
    }

    private static void refused(String call, long want, ToLongFunction<OldLift> asked) {
        OldLift lift = busy();
        CHECKS.due(call, asked.applyAsLong(lift), want);
        CHECKS.same("behind " + call + " all", Portrait.withTape(lift), Portrait.withTape(busy()));
    }

    private static void refusedNo(String call, java.util.function.Predicate<OldLift> asked) {
        refused(call, 0, lift -> asked.test(lift) ? 1 : 0);
    }

    private static void floors() {
        CHECKS.by("false: another number.");
        for (int n : new int[] {LOW, -2, -1, 0, 1, 7, 8, HIGH}) {
            refusedNo("floors " + n, lift -> lift.floors(n));
        }
    }

    private static void press() {
        CHECKS.by("NONE: no such BUTTON.");
        for (int button : new int[] {LOW, -3, -2, FLOORS, FLOORS + 1, HIGH}) {
            refused("press " + button, NONE, lift -> lift.press(button));
        }
    }

    private static void look() {
        CHECKS.by("NoSuchElementException: another what.");
        for (int what : new int[] {LOW, -2, -1, 6, 7, HIGH}) {
            refused("look " + what, THROWN, lift -> {
                try {
                    return lift.look(what);
                } catch (NoSuchElementException e) {
                    return THROWN;
                }
            });
        }
    }

    private static void never() {
        CHECKS.by("NONE: no such line, what, it HOLDS (1).");
        for (int line : new int[] {LOW, -1, 3, 4, 6, HIGH}) {
            refused("never " + line, NONE, lift -> lift.never(line, 0));
            refused("neverRow " + line, NONE, lift -> lift.neverRow(line, 0));
        }
        for (int what : new int[] {LOW, -1, 2, 3, HIGH}) {
            refused("never what " + what, NONE, lift -> lift.never(0, what));
        }
        refused("never that holds", NONE, lift -> lift.never(2, 1));
        for (int i : new int[] {LOW, -1, 2, HIGH}) {
            refused("neverRow at " + i, NONE, lift -> lift.neverRow(0, i));
        }
    }

    private static void forgets() {
        CHECKS.by("NONE: others, it is not (1).");
        for (int floor : new int[] {LOW, -1, FLOORS, HIGH}) {
            refused("forgets floor " + floor, NONE, lift -> lift.forgets(floor, 1, 0));
            refused("forgetsRow floor " + floor, NONE, lift -> lift.forgetsRow(floor, 1, 0));
        }
        for (int patience : new int[] {LOW, -1, 0, 61, HIGH}) {
            refused("forgets patience " + patience, NONE, lift -> lift.forgets(0, patience, 0));
            refused("forgetsRow patience " + patience, NONE, lift -> lift.forgetsRow(0, patience, 0));
        }
        for (int what : new int[] {LOW, -1, 2, HIGH}) {
            refused("forgets what " + what, NONE, lift -> lift.forgets(0, 1, what));
        }
        for (int i : new int[] {LOW, -1, 9, HIGH}) {
            refused("forgetsRow at " + i, NONE, lift -> lift.forgetsRow(0, 1, i));
        }
    }

    private static void stuck() {
        CHECKS.by("NONE: others (it is as it was).");
        for (int lamps : new int[] {LOW, -1, 256, 257, HIGH}) {
            refused("stuck " + lamps, NONE, lift -> lift.stuck(lamps));
            refused("tried lamps " + lamps, NONE, lift -> lift.tried(0, lamps));
        }
        CHECKS.by("NONE: no such BUTTON, others, none was STUCK since the CIRCUIT.");
        for (int button : new int[] {LOW, -2, FLOORS, HIGH}) {
            refused("tried button " + button, NONE, lift -> lift.tried(button, 129));
        }
        CHECKS.by("NONE: another what, no STATE (but 0: 0 then), none was STUCK.");
        for (int what : new int[] {LOW, -1, 5, HIGH}) {
            refused("thought " + what, NONE, lift -> lift.thought(what));
        }
        CHECKS.by("NONE: no STATE is THOUGHT, another what.");
        for (int what : new int[] {LOW, -1, 2, HIGH}) {
            refused("tests " + what, NONE, lift -> lift.tests(what));
        }
    }

    private static void cars() {
        CHECKS.by("CARS: how many, SIZE, DOORS, PARK: true; false: others.");
        int[][] wrong = {{0, 4, 2, 1}, {3, 4, 2, 1}, {1, 0, 2, 1}, {1, 9, 2, 1}, {1, 4, -1, 1}, {1, 4, 10, 1},
            {1, 4, 2, -1}, {1, 4, 2, FLOORS}, {LOW, 4, 2, 1}, {HIGH, 4, 2, 1}, {1, LOW, 2, 1}, {1, HIGH, 2, 1},
            {1, 4, LOW, 1}, {1, 4, HIGH, 1}, {1, 4, 2, LOW}, {1, 4, 2, HIGH}};
        for (int[] row : wrong) {
            refusedNo("cars " + java.util.Arrays.toString(row), lift -> lift.cars(row[0], row[1], row[2], row[3]));
        }
    }

    private static void person() {
        CHECKS.by("A PERSON: the number (from 0); NONE: others, 24 are there.");
        int[][] wrong = {{-1, 0, 1}, {301, 0, 1}, {5, -1, 1}, {5, FLOORS, 1}, {5, 1, -1}, {5, 1, FLOORS}, {5, 0, 0},
            {5, 4, 4}, {LOW, 0, 1}, {HIGH, 0, 1}, {5, LOW, 1}, {5, HIGH, 1}, {5, 1, LOW}, {5, 1, HIGH}, {5, LOW, LOW}};
        for (int[] row : wrong) {
            refused("person " + java.util.Arrays.toString(row), NONE, lift -> lift.person(row[0], row[1], row[2]));
        }
    }

    private static void hold() {
        CHECKS.by("A HOLD of a CAR (0, 1; there or not) at a TIME (0 to 899) for n ticks (1 to 60); 8 at most: true; false: others.");
        int[][] wrong = {{-1, 0, 5}, {900, 0, 5}, {2, -1, 5}, {2, 2, 5}, {2, 0, 0}, {2, 0, -1}, {2, 0, 61},
            {LOW, 0, 5}, {HIGH, 0, 5}, {2, LOW, 5}, {2, HIGH, 5}, {2, 0, LOW}, {2, 0, HIGH}};
        for (int[] row : wrong) {
            refusedNo("hold " + java.util.Arrays.toString(row), lift -> lift.hold(row[0], row[1], row[2]));
        }
    }

    private static void fire() {
        CHECKS.by("FIRE from a TIME on (NONE: none): true; false: another.");
        for (int time : new int[] {LOW, -3, -2, 900, 901, HIGH}) {
            refusedNo("fire " + time, lift -> lift.fire(time));
        }
    }

    private static void askedOfRuns() {
        CHECKS.by("NONE: none such, never (0: not GIVEN; 3: 900).");
        for (int wrong : new int[] {LOW, -1, 4, 5, 24, HIGH}) {
            refused("rode of " + wrong, NONE, lift -> lift.rode(wrong, 3));
            refused("rode what " + wrong, NONE, lift -> lift.rode(0, wrong));
            refused("waits " + wrong, NONE, lift -> lift.waits(wrong));
            refused("moved part " + wrong, NONE, lift -> lift.moved(0, wrong));
        }
        CHECKS.by("NONE: no such CAR (there), PART.");
        for (int car : new int[] {LOW, -1, 2, HIGH}) {
            refused("moved car " + car, NONE, lift -> lift.moved(car, 0));
            refused("stopped " + car, NONE, lift -> lift.stopped(car));
        }
        CHECKS.by("NONE: no PERSON, more than 8, another AIM, what, none (2).");
        for (int wrong : new int[] {LOW, -1, 3, HIGH}) {
            refused("best aim " + wrong, NONE, lift -> lift.best(wrong, 0));
            refused("best what " + wrong, NONE, lift -> lift.best(0, wrong));
        }
        refused("best what 2", NONE, lift -> lift.best(0, 2));
    }

    private static void rope() {
        CHECKS.by("TRIPS: true; false: others, 40 are there.");
        int[][] trips = {{-1, 1, 5}, {FLOORS, 1, 5}, {1, -1, 5}, {1, FLOORS, 5}, {0, 0, 5}, {4, 4, 5}, {0, 1, 0},
            {0, 1, -1}, {0, 1, 10000}, {LOW, 1, 5}, {HIGH, 1, 5}, {1, LOW, 5}, {1, HIGH, 5}, {0, 1, LOW}, {0, 1, HIGH}};
        for (int[] row : trips) {
            refusedNo("trip " + java.util.Arrays.toString(row), lift -> lift.trip(row[0], row[1], row[2]));
        }
        CHECKS.by("What 0: SLIP, 1: LIFE, 2: DAYS become n: true; false: others.");
        int[][] gauges = {{0, -1}, {0, 51}, {1, 0}, {1, -1}, {1, 1000000}, {2, 0}, {2, -1}, {2, 10000}, {-1, 20},
            {3, 20}, {LOW, 20}, {HIGH, 20}, {0, LOW}, {0, HIGH}, {1, LOW}, {1, HIGH}, {2, LOW}, {2, HIGH}};
        for (int[] row : gauges) {
            refusedNo("gauge " + java.util.Arrays.toString(row), lift -> lift.gauge(row[0], row[1]));
        }
    }

    private static void askedOfRope() {
        CHECKS.by("NONE: none such.");
        for (int wrong : new int[] {LOW, -1, 4, 5, HIGH}) {
            refused("rope part " + wrong, NONE, lift -> lift.rope(wrong, 0));
            refused("rope what " + wrong, NONE, lift -> lift.rope(0, wrong));
            refused("lasts part " + wrong, NONE, lift -> lift.lasts(wrong, 0));
            refused("lasts what " + wrong, NONE, lift -> lift.lasts(0, wrong));
            refused("first " + wrong, NONE, lift -> lift.first(wrong));
        }
        refused("rope what 3", NONE, lift -> lift.rope(0, 3));
        refused("lasts what 2", NONE, lift -> lift.lasts(0, 2));
        refused("first 2", NONE, lift -> lift.first(2));
    }

    private static void count() {
        CHECKS.by("NONE for another what.");
        for (int what : new int[] {LOW, -2, -1, 8, 9, HIGH}) {
            refused("count " + what, NONE, lift -> lift.count(what));
        }
    }

    /** The busy house with 24 persons, 8 holds and 40 lines of trips. */
    private static OldLift crowded() {
        OldLift lift = busy();
        for (int i = 4; i < 24; i++) {
            lift.person(i, i % 4, 4);
        }
        for (int i = 2; i < 8; i++) {
            lift.hold(3 * i, i % 2, i);
        }
        for (int i = 3; i < 40; i++) {
            lift.trip(i % 4, 4, i);
        }
        return lift;
    }

    private static void full() {
        CHECKS.by("NONE: others, 24 are there.");
        OldLift lift = crowded();
        CHECKS.due("persons", lift.count(4), 24);
        CHECKS.due("holds", lift.count(5), 8);
        CHECKS.due("trips", lift.count(6), 40);
        CHECKS.due("a 25th person", lift.person(0, 0, 1), NONE);
        CHECKS.due("a 25th person, wrong besides", lift.person(301, 0, 1), NONE);
        CHECKS.no("a ninth hold", lift.hold(1, 0, 60));
        CHECKS.no("a 41st line", lift.trip(0, 4, 9999));
        CHECKS.same("behind them all", Portrait.withTape(lift), Portrait.withTape(crowded()));
    }

    private static void faults() {
        CHECKS.by("The TAPE is read as a CIRCUIT: 0, or its FAULT (all stays then).");
        refusedText("as a circuit", 1 + 16 * 19, OldLift::circuit);
        CHECKS.by("The TAPE is read as a RULE: 0, or its FAULT (the one ahead stays then)");
        refusedText("as a rule", 1, OldLift::rule);
    }

    /** The tape is taken all the same: what an unread text leaves is held against what one that was taken does. */
    private static void refusedText(String how, long want, ToLongFunction<OldLift> read) {
        OldLift lift = busy();
        CHECKS.due(how, read.applyAsLong(lift), want);
        CHECKS.due("the tape is empty", lift.count(7), 0);
        String ahead = Portrait.of(busy()).replace("count7=20 ", "count7=0 ");
        CHECKS.same("behind a fault all", Portrait.of(lift), ahead);
    }
}
