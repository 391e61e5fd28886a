/** The bounds of promises 1, 2, 3 and 33 and of the tape: a test for each sentence that names one. */
public final class BoundsHouseTest {
    private static final Checks CHECKS = new Checks("BoundsHouseTest");
    private static final int NONE = OldLift.NONE;

    private BoundsHouseTest() { }

    public static void main(String[] args) {
        newObject();
        newCars();
        newRope();
        floorsOfHouses();
        allAsAtFirst();
        tapeStays();
        signs();
        orderOfBytes();
        full();
        taken();
        fullAgain();
        counts();
        all512Calls();
        CHECKS.end();
    }

    private static void newObject() {
        CHECKS.by("Four FLOORS, no CIRCUIT, no RULE, one CAR, no PERSON.");
        OldLift lift = new OldLift();
        long[] counts = {4, 0, 1, 1, 0, 0, 0, 0};
        for (int what = 0; what < 8; what++) {
            CHECKS.due("count " + what, lift.count(what), counts[what]);
        }
        topFloorIs(lift, 3);
        OldLift idle = new OldLift();
        for (int button = NONE; button < 4; button++) {
            CHECKS.due("no lamp", idle.press(button), 0);
        }
        for (int what = 0; what < 5; what++) {
            CHECKS.due("nothing moves, look " + what, idle.look(what), 0);
        }
        CHECKS.due("no never line", idle.never(0, 0), NONE);
        CHECKS.due("nobody to ride", idle.rode(0, 3), NONE);
        CHECKS.due("nobody to wait", idle.waits(0), NONE);
        CHECKS.due("nobody to give", idle.best(0, 0), NONE);
        CHECKS.due("no car 1", idle.stopped(1), NONE);
        CHECKS.due("no car 1", idle.moved(1, 0), NONE);
        CHECKS.due("car 0", idle.stopped(0), 0);
        CHECKS.due("none was stuck", idle.tried(0, 0), NONE);
        CHECKS.due("nothing is thought", idle.thought(0), NONE);
    }

    private static void newCars() {
        CHECKS.by("CARS 0 and 1 (one or two, 1 at first) have a SIZE (1 to 8; 4 at first), DOORS (0 to 9 ticks of TIME; 1 at first), a PARK (a FLOOR; 0 at first).");
        OldLift lift = new OldLift();
        for (int i = 0; i < 5; i++) {
            lift.person(0, 0, 3);
        }
        CHECKS.due("the fourth is in at once", lift.rode(3, 1), 0);
        CHECKS.due("it stands for one tick, goes three floors", lift.rode(3, 2), 5);
        CHECKS.due("the fifth waits until it is back", lift.rode(4, 1), 10);
        CHECKS.due("over", lift.run(), 15);
        OldLift parked = new OldLift();
        parked.person(0, 0, 3);
        parked.person(50, 0, 1);
        CHECKS.due("it waits at floor 0", parked.rode(1, 3), 0);
        CHECKS.due("no fire, no hold", parked.run(), 53);
    }

    private static void newRope() {
        CHECKS.by("SLIP (0 to 50; 0 at first)");
        OldLift lift = new OldLift();
        lift.trip(0, 3, 200);
        CHECKS.due("least", lift.rope(0, 0), 200);
        CHECKS.due("most", lift.rope(0, 1), 200);
        CHECKS.by("LIFE (1 to 999999; 1000 at first)");
        lift.trip(0, 1, 799);
        CHECKS.due("999 bends", lift.rope(0, 2), 0);
        lift.trip(0, 1, 1);
        CHECKS.due("1000 bends", lift.rope(0, 2), 2);
        CHECKS.by("DAYS (1 to 9999; 1 at first)");
        CHECKS.due("800 more bends are four days", lift.lasts(2, 0), 4);
    }

    /** All that is told by a floor is told by this one and not by the next; parts end one below. */
    private static void topFloorIs(OldLift lift, int top) {
        CHECKS.due("floors", lift.count(0), top + 1);
        CHECKS.due("the top button", lift.press(top), 0);
        CHECKS.due("no such button", lift.press(top + 1), NONE);
        CHECKS.due("forgotten", lift.forgets(top, 1, 0), 1);
        CHECKS.due("not there", lift.forgets(top + 1, 1, 0), NONE);
        CHECKS.due("no button of a row", lift.forgetsRow(top, 1, 0), NONE);
        lift.stuck(0);
        CHECKS.due("tried", lift.tried(top, 0), 1);
        CHECKS.due("not tried", lift.tried(top + 1, 0), NONE);
        CHECKS.yes("park", lift.cars(1, 4, 1, top));
        CHECKS.no("no park", lift.cars(1, 4, 1, top + 1));
        CHECKS.due("from the top", lift.person(0, top, 0), 0);
        CHECKS.due("to the top", lift.person(0, 0, top), 1);
        CHECKS.due("from above it", lift.person(0, top + 1, 0), NONE);
        CHECKS.due("to above it", lift.person(0, 0, top + 1), NONE);
        CHECKS.due("the top part", lift.moved(0, top - 1), 2);
        CHECKS.due("no part", lift.moved(0, top), NONE);
        CHECKS.yes("trip from the top", lift.trip(top, 0, 1));
        CHECKS.yes("trip to the top", lift.trip(0, top, 1));
        CHECKS.no("trip from above it", lift.trip(top + 1, 0, 1));
        CHECKS.no("trip to above it", lift.trip(0, top + 1, 1));
        CHECKS.due("the top part bends", lift.rope(top - 1, 0), 2);
        CHECKS.due("no part", lift.rope(top, 0), NONE);
        CHECKS.due("the top part lasts", lift.lasts(top - 1, 0), 499);
        CHECKS.due("no part", lift.lasts(top, 0), NONE);
        CHECKS.due("all parts", lift.first(0), (1 << top) - 1);
    }

    private static void floorsOfHouses() {
        CHECKS.by("A HOUSE has FLOORS 0 to F - 1 (F 2 to 6; 4 at first).");
        for (int n = 2; n <= 6; n++) {
            OldLift lift = new OldLift();
            CHECKS.yes("floors " + n, lift.floors(n));
            topFloorIs(lift, n - 1);
            // The car itself goes as high, and its facts with it.
            Texts.readCircuit(lift, "up=any;lamp 0=at " + (n - 1) + ";");
            for (int i = 1; i < n - 1; i++) {
                CHECKS.due("below the top", lift.press(0), 0);
            }
            CHECKS.due("at the top", lift.press(0), 1);
            CHECKS.due("no bump", lift.look(4), 0);
            CHECKS.due("the top floor", lift.look(1), n - 1);
            lift.press(0);
            CHECKS.due("no higher", lift.look(1), n - 1);
            CHECKS.due("a bump", lift.look(4), 1);
            CHECKS.due("a state a floor", lift.count(2), n);
        }
        for (int n : new int[] {Integer.MIN_VALUE, -1, 0, 1, 7, 8, Integer.MAX_VALUE}) {
            OldLift lift = new OldLift();
            lift.floors(5);
            CHECKS.no("floors " + n, lift.floors(n));
            topFloorIs(lift, 4);
        }
    }

    /** Tells something of every kind. */
    private static void tellMuch(OldLift lift) {
        Texts.readCircuit(lift, "relay a=any;up=a;door=1-a;lamp 0=a;never a;never at 1;");
        Texts.readRule(lift, "0-car");
        lift.press(0);
        lift.stuck(1);
        lift.cars(2, 1, 9, 1);
        lift.person(0, 0, 1);
        lift.person(5, 1, 0);
        lift.hold(1, 1, 7);
        lift.fire(100);
        lift.run();
        lift.best(0, 0);
        lift.never(0, 1);
        lift.forgets(0, 60, 1);
        lift.tests(0);
        lift.trip(0, 1, 1000);
        lift.gauge(0, 50);
        lift.gauge(1, 5);
        lift.gauge(2, 7);
    }

    /** What is told behind floors shows what of the earlier house is still there. */
    private static String behindFloors(OldLift lift, int n) {
        CHECKS.yes("floors " + n, lift.floors(n));
        String ahead = Portrait.of(lift);
        CHECKS.yes("two cars", lift.cars(2, 4, 1, 0));
        lift.person(0, 0, 1);
        lift.trip(0, 1, 100);
        lift.press(1);
        return ahead + Portrait.of(lift);
    }

    private static void allAsAtFirst() {
        CHECKS.by("A HOUSE of so many FLOORS: all is as at first but for that (the TAPE stays): true");
        for (int n = 2; n <= 6; n++) {
            OldLift lift = new OldLift();
            tellMuch(lift);
            CHECKS.same("all", behindFloors(lift, n), behindFloors(new OldLift(), n));
        }
        OldLift lift = new OldLift();
        tellMuch(lift);
        CHECKS.yes("as many as there were", lift.floors(4));
        CHECKS.same("all", Portrait.of(lift), Portrait.of(new OldLift()));
    }

    private static void tapeStays() {
        CHECKS.by("(the TAPE stays)");
        OldLift lift = new OldLift();
        Texts.feed(lift, "up=call 4;");
        lift.floors(5);
        CHECKS.due("all of it", lift.count(7), 10);
        CHECKS.due("read by the new house", lift.circuit(), 0);
        Texts.feed(lift, "up=call 4;");
        lift.floors(4);
        CHECKS.due("read by the new house", lift.circuit(), 4 + 16 * 8);
        Texts.feed(lift, "far");
        lift.floors(7);
        CHECKS.due("a number that is refused", lift.count(7), 3);
    }

    private static void signs() {
        CHECKS.by("The TAPE has at most 1,000 signs, 10 and 32 .. 126");
        for (int sign = 0; sign < 256; sign++) {
            OldLift lift = new OldLift();
            int due = sign == 10 || sign >= 32 && sign <= 126 ? 1 : 0;
            CHECKS.due("sign " + sign + " last", lift.feed(0, 0, sign), due);
            CHECKS.due("sign " + sign + " first", lift.feed((long) sign << 56, 0, 0), 2 * due);
            CHECKS.due("sign " + sign + " between", lift.feed(0, (long) sign << 24, 0), 3 * due);
            CHECKS.due("count", lift.count(7), 3 * due);
        }
        OldLift lift = new OldLift();
        CHECKS.due("none", lift.feed(0, 0, 0), 0);
        CHECKS.due("none", lift.feed(-1, -1, -1), 0);
        CHECKS.due("none", lift.feed(Long.MIN_VALUE, 0, Long.MIN_VALUE), 0);
        CHECKS.due("24", lift.feed(0x2020202020202020L, 0x7E7E7E7E7E7E7E7EL, 0x0A0A0A0A0A0A0A0AL), 24);
    }

    private static void orderOfBytes() {
        CHECKS.by("Up to 24 signs come behind the TAPE: the bytes of a, b, c, of each the highest first");
        String text = "relay a=call 1;lamp 7=a;";
        OldLift lift = new OldLift();
        CHECKS.due("all 24", lift.feed(Texts.eight(text, 0), Texts.eight(text, 8), Texts.eight(text, 16)), 24);
        CHECKS.due("in order", lift.circuit(), 0);
        CHECKS.due("the last one read", lift.press(1), 128);
        // One sign a call, in any of the 24 places.
        for (int i = 0; i < text.length(); i++) {
            long sign = (long) text.charAt(i) << 8 * (7 - i % 8);
            long a = i < 8 ? sign : 0;
            long b = i >= 8 && i < 16 ? sign : 0;
            CHECKS.due("one more", lift.feed(a, b, i >= 16 ? sign : 0), i + 1);
        }
        CHECKS.due("in order", lift.circuit(), 0);
        CHECKS.due("the last one read", lift.press(1), 128);
    }

    /** An object with so many signs on its tape, all of them blanks. */
    private static OldLift filled(int n) {
        OldLift lift = new OldLift();
        CHECKS.due("fed", Texts.feed(lift, " ".repeat(n)), n);
        return lift;
    }

    private static void full() {
        CHECKS.by("others than 10 and 32 .. 126, and what is beyond 1,000, are left out: how many there are.");
        CHECKS.due("the thousandth", filled(999).feed(0, 0, '*'), 1000);
        CHECKS.due("998 and two", filled(998).feed('*', 0, '*'), 1000);
        CHECKS.due("998 and one", filled(998).feed('*', 0, 0), 999);
        CHECKS.due("one too many", filled(1000).feed(0, '*', 0), 1000);
        CHECKS.due("two for one", filled(999).feed('*', '*', 0), 1000);
        CHECKS.due("24 for 23", filled(977).feed(0x3131313131313131L, 0x3131313131313131L, 0x3131313131313131L), 1000);
        CHECKS.due("24 for 24", filled(976).feed(0x3131313131313131L, 0x3131313131313131L, 0x3131313131313131L), 1000);
        CHECKS.due("24 for 25", filled(975).feed(0x3131313131313131L, 0x3131313131313131L, 0x3131313131313131L), 999);
        // What comes first is kept: the thousandth sign is the +, at place 999.
        OldLift lift = filled(998);
        lift.feed(0x312B310000000000L, 0, 0);
        CHECKS.due("1 + and the end", lift.rule(), 1 + 16 * 1000);
        OldLift wrong = filled(999);
        wrong.feed(0x0001FF7F242B0000L, 0, 0);
        CHECKS.due("signs that are none take no room", wrong.rule(), 1 + 16 * 999);
        OldLift just = filled(997);
        just.feed(0x312B310000000000L, 0, 0);
        CHECKS.due("1 + 1", just.rule(), 0);
        OldLift again = filled(1000);
        again.rule();
        CHECKS.due("from 0 again", again.feed('1', 0, 0), 1);
    }

    private static void taken() {
        CHECKS.by("what reads it takes it: it is empty then.");
        for (String text : new String[] {"", " ", "1", "$", "up=1;", "up=", "far", "(((((("}) {
            OldLift lift = new OldLift();
            Texts.feed(lift, text);
            CHECKS.due("fed " + text, lift.count(7), text.length());
            lift.circuit();
            CHECKS.due("taken by circuit: " + text, lift.count(7), 0);
            CHECKS.due("an empty circuit then", lift.circuit(), 0);
            Texts.feed(lift, text);
            lift.rule();
            CHECKS.due("taken by rule: " + text, lift.count(7), 0);
            CHECKS.due("an empty rule then", lift.rule(), 0);
        }
    }

    /** Four texts of 1,000 signs, one behind the other: each is read whole. */
    private static void fullAgain() {
        CHECKS.by("The TAPE has at most 1,000 signs");
        OldLift lift = new OldLift();
        for (int n = 1; n <= 4; n++) {
            String text = "lamp 0=" + "1+".repeat(489) + "1=490;lamp 7=1;";
            CHECKS.due("fed", Texts.feed(lift, text), 1000);
            CHECKS.due("read", lift.circuit(), 0);
            CHECKS.due("by all signs", lift.look(3), 129);
            lift.again();
        }
        OldLift ruled = new OldLift();
        ruled.cars(2, 4, 1, 0);
        ruled.person(0, 0, 1);
        for (int n = 1; n <= 4; n++) {
            int car = n % 2;
            String text = "00" + "+0".repeat(497) + (car == 1 ? "-car" : "+car");
            CHECKS.due("fed", Texts.feed(ruled, text), 1000);
            CHECKS.due("read", ruled.rule(), 0);
            CHECKS.due("by all signs", ruled.rode(0, 0), car);
        }
    }

    private static void counts() {
        CHECKS.by("What 0: FLOORS, 1: never lines, 2: REACHED STATES, 3: CARS, 4: PERSONS, 5: HOLDS, 6: lines of TRIPS, 7: signs on the TAPE. NONE for another what.");
        OldLift lift = Texts.liftWith(6, "never 0;never 1;never 2;never 3;never 4;never 5;up=1;");
        lift.cars(2, 1, 1, 1);
        for (int i = 0; i < 24; i++) {
            CHECKS.due("persons", lift.count(4), i);
            lift.person(0, 0, 1);
        }
        for (int i = 0; i < 8; i++) {
            CHECKS.due("holds", lift.count(5), i);
            lift.hold(0, 0, 1);
        }
        for (int i = 0; i < 40; i++) {
            CHECKS.due("lines", lift.count(6), i);
            lift.trip(0, 1, 1);
        }
        Texts.feed(lift, "$".repeat(1000));
        long[] most = {6, 6, 6, 2, 24, 8, 40, 1000};
        for (int what = 0; what < 8; what++) {
            CHECKS.due("count " + what, lift.count(what), most[what]);
        }
        for (int what : new int[] {Integer.MIN_VALUE, -2, -1, 8, 9, Integer.MAX_VALUE}) {
            CHECKS.due("count " + what, lift.count(what), NONE);
        }
        lift.nobody();
        CHECKS.due("no persons", lift.count(4), 0);
        CHECKS.due("no holds", lift.count(5), 0);
        CHECKS.due("trips stay", lift.count(6), 40);
    }

    private static void all512Calls() {
        CHECKS.by("An object is used for at most 512 calls after it has been made");
        OldLift ticks = new OldLift();
        for (int i = 1; i <= 511; i++) {
            ticks.press(i % 4);
        }
        CHECKS.due("the 512th call: ticks", ticks.look(5), 511);
        OldLift bumps = new OldLift();
        Texts.feed(bumps, "down=1;");
        bumps.circuit();
        // Three calls till here: count and feed of Texts.feed, and circuit.
        for (int i = 4; i <= 511; i++) {
            bumps.press(NONE);
        }
        CHECKS.due("the 512th call: bumps", bumps.look(4), 508);
        OldLift tape = new OldLift();
        for (int i = 1; i <= 511; i++) {
            tape.feed('1', 0, 0);
        }
        CHECKS.due("the 512th call: 511 digits are no number", tape.rule(), 1);
    }
}
