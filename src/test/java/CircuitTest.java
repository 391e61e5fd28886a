import java.util.NoSuchElementException;

/** Promises 6 to 16: press, again, look, never, forgets, stuck, tried, thought, tests. */
public final class CircuitTest {
    private static final Checks CHECKS = new Checks("CircuitTest");
    private static final int NONE = OldLift.NONE;

    /** Any button lifts the car a floor; the lamps show the relay and floor 2. */
    private static final String LIFTER = "relay a=any;up=a;lamp 0=a;lamp 3=at 2;never at 3;never at 1 and a;never open;";

    private CircuitTest() { }

    public static void main(String[] args) {
        press();
        relaysAsTheyWere();
        factsAsTheTickBegins();
        door();
        bumps();
        look();
        never();
        neverRowIsTheFirst();
        forgets();
        patience();
        stuck();
        thought();
        tests();
        allLamps();
        withoutCircuit();
        CHECKS.end();
    }

    private static OldLift lift(int floors, String circuit) {
        OldLift lift = new OldLift();
        CHECKS.yes("floors", lift.floors(floors));
        Texts.feed(lift, circuit);
        CHECKS.due("circuit " + circuit, lift.circuit(), 0);
        return lift;
    }

    private static void state(String when, OldLift lift, int relays, int floor, int door) {
        CHECKS.due(when + ": relays", lift.look(0), relays);
        CHECKS.due(when + ": floor", lift.look(1), floor);
        CHECKS.due(when + ": door", lift.look(2), door);
    }

    private static void press() {
        OldLift lift = lift(4, LIFTER);
        CHECKS.due("no button", lift.press(NONE), 0);
        CHECKS.due("a button", lift.press(2), 1);
        state("lifted", lift, 1, 1, 0);
        CHECKS.due("no button", lift.press(NONE), 0);
        state("rests", lift, 0, 1, 0);
        CHECKS.due("at 2", lift.press(0), 9);
        CHECKS.due("lamps again", lift.look(3), 9);
        CHECKS.due("at 3", lift.press(3), 1);
        for (int button : new int[] {-2, 4, 5, Integer.MIN_VALUE, Integer.MAX_VALUE}) {
            CHECKS.due("press " + button, lift.press(button), NONE);
        }
        CHECKS.due("ticks", lift.look(5), 5);
        CHECKS.due("bumps", lift.look(4), 0);
        CHECKS.due("bumps", lift.press(1), 1);
        CHECKS.due("bumps", lift.look(4), 1);
        state("held", lift, 1, 3, 0);
        CHECKS.yes("again", lift.again());
        state("again", lift, 0, 0, 0);
        CHECKS.due("ticks", lift.look(5), 0);
        CHECKS.due("bumps", lift.look(4), 0);
    }

    private static void relaysAsTheyWere() {
        // b takes what a was; up goes by the relays as they are now.
        OldLift lift = lift(4, "relay a=call 1;relay b=a;relay c=b;relay h=not h;up=b;lamp 1=b;");
        lift.press(1);
        state("a", lift, 129, 0, 0);
        CHECKS.due("b", lift.press(NONE), 2);
        state("b", lift, 2, 1, 0);
        lift.press(NONE);
        state("c", lift, 132, 1, 0);
        lift.press(NONE);
        state("none", lift, 0, 1, 0);
    }

    private static void factsAsTheTickBegins() {
        OldLift lift = lift(3, "relay a=at 0;relay b=at 1;relay c=open;relay d=call 2;relay e=any;up=at 0;"
            + "door=at 1 and any;lamp 0=at 1;lamp 1=call 2 or any;lamp 2=open;");
        CHECKS.due("up", lift.press(2), 1);
        state("up", lift, 1 + 8 + 16, 1, 0);
        CHECKS.due("opens", lift.press(0), 5);
        state("opens", lift, 2 + 16, 1, 1);
        CHECKS.due("shuts", lift.press(NONE), 1);
        state("shuts", lift, 2 + 4, 1, 0);
    }

    private static void door() {
        OldLift lift = lift(4, "relay a=call 0;relay b=call 1;relay c=call 2;up=a+b;down=b;door=c+b+a*at 3;");
        lift.press(2);
        state("opens", lift, 4, 0, 1);
        lift.press(2);
        state("stays open", lift, 4, 0, 1);
        lift.press(1);
        state("open: door alone counts", lift, 2, 0, 1);
        lift.press(0);
        state("an open door shuts first", lift, 1, 0, 0);
        lift.press(0);
        state("then it goes", lift, 1, 1, 0);
        lift.press(1);
        state("up and down: the door opens", lift, 2, 1, 1);
        lift.press(NONE);
        state("shuts", lift, 0, 1, 0);
        lift.press(0);
        lift.press(0);
        state("at the top", lift, 1, 3, 0);
        lift.press(0);
        state("a bump opens no door", lift, 1, 3, 0);
        CHECKS.due("one bump", lift.look(4), 1);
    }

    private static void bumps() {
        OldLift lift = lift(2, "up=call 1;down=call 0;");
        lift.press(0);
        CHECKS.due("below", lift.look(4), 1);
        lift.press(1);
        lift.press(1);
        CHECKS.due("above", lift.look(4), 2);
        CHECKS.due("floor", lift.look(1), 1);
        lift.press(0);
        lift.press(NONE);
        CHECKS.due("no more", lift.look(4), 2);
        CHECKS.due("ticks", lift.look(5), 5);
        lift.count(2);
        lift.never(0, 0);
        lift.forgets(0, 9, 0);
        lift.stuck(0);
        lift.tried(0, 0);
        lift.tests(0);
        CHECKS.due("questions press nothing", lift.look(5), 5);
        CHECKS.due("and bump nothing", lift.look(4), 2);
    }

    private static void look() {
        OldLift lift = new OldLift();
        for (int what : new int[] {-1, 6, 7, Integer.MIN_VALUE, Integer.MAX_VALUE}) {
            boolean thrown = false;
            try {
                lift.look(what);
            } catch (NoSuchElementException e) {
                thrown = true;
            }
            CHECKS.yes("look " + what + " throws", thrown);
        }
    }

    private static void never() {
        OldLift lift = lift(4, LIFTER);
        CHECKS.due("reached", lift.count(2), 7);
        CHECKS.due("at 3 is reached", lift.never(0, 0), 0);
        CHECKS.due("its row", lift.never(0, 1), 3);
        for (int i = 0; i < 3; i++) {
            CHECKS.due("its button", lift.neverRow(0, i), 1);
        }
        CHECKS.due("behind it", lift.neverRow(0, 3), NONE);
        CHECKS.due("ahead of it", lift.neverRow(0, -1), NONE);
        CHECKS.due("far off", lift.neverRow(0, Integer.MAX_VALUE), NONE);
        CHECKS.due("line 1", lift.never(1, 1), 1);
        CHECKS.due("line 1's button", lift.neverRow(1, 0), 1);
        CHECKS.due("line 2 holds", lift.never(2, 0), 1);
        CHECKS.due("no row", lift.never(2, 1), NONE);
        CHECKS.due("no button", lift.neverRow(2, 0), NONE);
        for (int line : new int[] {-1, 3, 6, Integer.MIN_VALUE, Integer.MAX_VALUE}) {
            CHECKS.due("no such line", lift.never(line, 0), NONE);
            CHECKS.due("no such row", lift.neverRow(line, 0), NONE);
        }
        CHECKS.due("no such what", lift.never(0, 2), NONE);
        CHECKS.due("no such what", lift.never(0, -1), NONE);
        OldLift six = lift(4, "never 1;never call 0;never any;never at 0;never at 1;never 0-1;");
        long[] holds = {0, 1, 1, 0, 1, 0};
        for (int i = 0; i < 6; i++) {
            CHECKS.due("line " + i, six.never(i, 0), holds[i]);
            CHECKS.due("row of line " + i, six.never(i, 1), holds[i] == 1 ? NONE : 0);
        }
    }

    private static void neverRowIsTheFirst() {
        // Two ways to b, each of two buttons: 3 then 1, or 1 then none; the latter is first in order.
        OldLift lift = lift(4, "relay a=call 3;relay c=call 1;relay b=a and call 1 or (c and not any);never b;");
        CHECKS.due("row", lift.never(0, 1), 2);
        CHECKS.due("first", lift.neverRow(0, 0), 2);
        CHECKS.due("second", lift.neverRow(0, 1), 0);
        // No button is ahead of floor 0.
        OldLift eager = lift(4, "relay a=1;never a;");
        CHECKS.due("row", eager.never(0, 1), 1);
        CHECKS.due("none", eager.neverRow(0, 0), 0);
        // A chain of eight relays: buttons 5, 4, 3, .. in turn.
        OldLift chain = lift(6, "relay a=call 5;relay b=a*call 4;relay c=b*call 3;relay d=c*call 2;relay e=d*call 1;"
            + "relay f=e*call 0;relay g=f*(1-any);relay h=g*call 5;never h;");
        CHECKS.due("row", chain.never(0, 1), 8);
        long[] row = {6, 5, 4, 3, 2, 1, 0, 6, NONE};
        for (int i = 0; i < row.length; i++) {
            CHECKS.due("button " + i, chain.neverRow(0, i), row[i]);
        }
    }

    private static void forgets() {
        // From the open door a call is taken off with the one that opened it.
        OldLift lift = lift(2, "relay a=call 0 or a and not open;door=a;");
        CHECKS.due("reached", lift.count(2), 2);
        CHECKS.due("forgotten", lift.forgets(0, 1, 0), 1);
        CHECKS.due("by a row of one", lift.forgets(0, 60, 1), 1);
        CHECKS.due("button", lift.forgetsRow(0, 60, 0), 1);
        CHECKS.due("no more", lift.forgetsRow(0, 60, 1), NONE);
        CHECKS.due("ahead", lift.forgetsRow(0, 60, -1), NONE);
        CHECKS.due("floor 1 at once", lift.forgets(1, 60, 1), 0);
        CHECKS.due("no button", lift.forgetsRow(1, 60, 0), NONE);
        OldLift open = lift(2, "door=1;");
        CHECKS.due("not forgotten", open.forgets(0, 1, 0), 0);
        CHECKS.due("no row", open.forgets(0, 1, 1), NONE);
        CHECKS.due("no button", open.forgetsRow(0, 1, 0), NONE);
        CHECKS.due("floor 1 is", open.forgets(1, 1, 0), 1);
        for (int wrong : new int[] {-1, 2, Integer.MIN_VALUE, Integer.MAX_VALUE}) {
            CHECKS.due("no floor", open.forgets(wrong, 5, 0), NONE);
            CHECKS.due("no floor", open.forgetsRow(wrong, 5, 0), NONE);
            CHECKS.due("no what", open.forgets(0, 5, wrong), NONE);
        }
        for (int wrong : new int[] {-1, 0, 61, Integer.MIN_VALUE, Integer.MAX_VALUE}) {
            CHECKS.due("no patience", lift.forgets(1, wrong, 0), NONE);
            CHECKS.due("no patience", lift.forgetsRow(0, wrong, 0), NONE);
        }
    }

    private static void patience() {
        OldLift lift = lift(2, "relay a=call 0;relay b=a;relay c=b;door=c;");
        CHECKS.due("three ticks do", lift.forgets(0, 3, 0), 0);
        CHECKS.due("two do not", lift.forgets(0, 2, 0), 1);
        CHECKS.due("from start", lift.forgets(0, 2, 1), 0);
        CHECKS.due("one", lift.forgets(0, 1, 1), 0);
        // It counts to 64 without a button, so that the door opens late; six relays are the counter.
        String count = "relay a=(not a)*(1-any)+any;relay b=(b+a=1)*(1-any)+any;relay c=(c+a*b=1)*(1-any)+any;"
            + "relay d=(d+a*b*c=1)*(1-any)+any;relay e=(e+a*b*c*d=1)*(1-any)+any;"
            + "relay f=(f+a*b*c*d*e=1)*(1-any)+any;";
        OldLift late = lift(2, count + "door=a*b*(1-c)*d*e*f;");
        // The button sets all; then 0, 1, .. : 59 = 1 + 2 + 8 + 16 + 32 comes behind tick 61.
        CHECKS.due("61 ticks are too many", late.forgets(0, 60, 0), 1);
        OldLift just = lift(2, count + "door=(1-a)*b*(1-c)*d*e*f;");
        CHECKS.due("58 comes behind tick 60", just.forgets(0, 60, 0), 0);
        CHECKS.due("59 ticks do not", just.forgets(0, 59, 0), 1);
        CHECKS.due("the second floor", just.forgets(1, 60, 0), 1);
        // h stays on behind the first button, and then a button sets one less: a tick more is needed.
        OldLift slower = lift(2, count.replace("(1-any)+any;relay b", "(1-any)+any*(1-h);relay b")
            + "relay h=h or any;door=(1-a)*b*(1-c)*d*e*f;");
        CHECKS.due("59 do not do from start", slower.forgets(0, 59, 1), 0);
        CHECKS.due("60 do from start, not behind a button", slower.forgets(0, 60, 1), 1);
        CHECKS.due("that button", slower.forgetsRow(0, 60, 0), 1);
    }

    private static void stuck() {
        OldLift lift = lift(4, LIFTER);
        CHECKS.due("none was stuck", lift.tried(0, 0), NONE);
        CHECKS.due("dark", lift.stuck(0), 3);
        CHECKS.due("floors 0, 1, 3", lift.thought(3), 11);
        CHECKS.due("lamp 0", lift.stuck(1), 2);
        CHECKS.due("floors 1, 3", lift.thought(3), 10);
        for (int lamps : new int[] {-1, 256, Integer.MIN_VALUE, Integer.MAX_VALUE}) {
            CHECKS.due("no lamps", lift.stuck(lamps), NONE);
            CHECKS.due("no lamps", lift.tried(0, lamps), NONE);
        }
        for (int button : new int[] {-2, 4, Integer.MIN_VALUE, Integer.MAX_VALUE}) {
            CHECKS.due("no button", lift.tried(button, 0), NONE);
        }
        CHECKS.due("as it was", lift.thought(0), 2);
        CHECKS.due("tried", lift.tried(3, 9), 1);
        CHECKS.due("at 2", lift.thought(3), 4);
        CHECKS.due("rests there", lift.tried(NONE, 8), 1);
        CHECKS.due("impossible", lift.tried(NONE, 0), 0);
        CHECKS.due("it stays so", lift.tried(NONE, 0), 0);
        CHECKS.due("again", lift.stuck(0), 3);
        CHECKS.due("two of them come together", lift.tried(0, 1), 2);
        CHECKS.due("lamp 9 alone", lift.stuck(9), 1);
        CHECKS.due("goes to 3", lift.tried(2, 1), 1);
        CHECKS.due("all lamps", lift.stuck(255), 0);
        CHECKS.due("the car itself did not move", lift.look(5), 0);
        OldLift meet = lift(4, "up=1;");
        CHECKS.due("all floors", meet.stuck(0), 4);
        CHECKS.due("two become one", meet.tried(NONE, 0), 3);
        CHECKS.due("and again", meet.tried(0, 0), 2);
        CHECKS.due("and again", meet.tried(0, 0), 1);
        CHECKS.due("at 3", meet.thought(3), 8);
    }

    private static void thought() {
        OldLift lift = lift(4, LIFTER);
        for (int what = 0; what < 5; what++) {
            CHECKS.due("none was stuck", lift.thought(what), NONE);
        }
        lift.stuck(1);
        long[] lampOne = {2, 1, 1, 10, 0};
        for (int what = 0; what < 5; what++) {
            CHECKS.due("thought " + what, lift.thought(what), lampOne[what]);
        }
        for (int what : new int[] {-1, 5, Integer.MIN_VALUE, Integer.MAX_VALUE}) {
            CHECKS.due("another what", lift.thought(what), NONE);
        }
        lift.stuck(255);
        CHECKS.due("none", lift.thought(0), 0);
        for (int what = 1; what < 5; what++) {
            CHECKS.due("no state", lift.thought(what), NONE);
        }
        OldLift doors = lift(2, "relay a=1;relay h=any;door=any;");
        CHECKS.due("three", doors.stuck(0), 3);
        CHECKS.due("in all", doors.thought(1), 0);
        CHECKS.due("in some", doors.thought(2), 129);
        CHECKS.due("either", doors.thought(4), 2);
        CHECKS.due("a button", doors.tried(1, 0), 1);
        CHECKS.due("in all", doors.thought(1), 129);
        CHECKS.due("open", doors.thought(4), 1);
        CHECKS.due("none", doors.tried(NONE, 0), 1);
        CHECKS.due("shut", doors.thought(4), 0);
        CHECKS.yes("again", doors.again());
        CHECKS.due("again does not make one forget", doors.thought(0), 1);
        Texts.feed(doors, "door=1;");
        doors.circuit();
        CHECKS.due("a circuit does", doors.thought(0), NONE);
    }

    private static void tests() {
        OldLift lift = lift(4, LIFTER);
        CHECKS.due("none was stuck", lift.tests(0), NONE);
        lift.stuck(0);
        CHECKS.due("two tests", lift.tests(0), 2);
        CHECKS.due("floor 0 first", lift.tests(1), 1);
        CHECKS.due("another what", lift.tests(2), NONE);
        CHECKS.due("another what", lift.tests(-1), NONE);
        lift.tried(0, 1);
        CHECKS.due("one test", lift.tests(0), 1);
        CHECKS.due("floor 0 first", lift.tests(1), 1);
        lift.tried(0, 9);
        CHECKS.due("known", lift.tests(0), 0);
        CHECKS.due("no first", lift.tests(1), NONE);
        lift.stuck(255);
        CHECKS.due("no state", lift.tests(0), NONE);
        OldLift four = lift(4, "relay a=any;up=a;");
        four.stuck(0);
        CHECKS.due("three ticks up", four.tests(0), 3);
        CHECKS.due("floor 0 first", four.tests(1), 1);
        OldLift five = lift(5, "relay a=any;up=a;");
        five.stuck(0);
        CHECKS.due("more than three", five.tests(0), NONE);
        CHECKS.due("no first", five.tests(1), NONE);
        OldLift none = lift(2, "relay a=not any;up=any;lamp 0=a and at 1;");
        CHECKS.due("dark", none.stuck(0), 3);
        CHECKS.due("one test", none.tests(0), 1);
        CHECKS.due("no button is ahead of floor 0", none.tests(1), 0);
        OldLift last = lift(4, "up=call 0;down=call 3;");
        last.stuck(0);
        CHECKS.due("three", last.tests(0), 3);
        CHECKS.due("0 is ahead of 3", last.tests(1), 1);
        OldLift down = lift(3, "up=call 0*at 0+call 1*at 1;down=call 2;");
        down.stuck(0);
        CHECKS.due("two: up by 0, up by 1", down.tests(0), 2);
        CHECKS.due("0 is ahead of 2", down.tests(1), 1);
        OldLift alone = lift(3, "up=call 0*at 0+call 1*at 1;down=call 2;lamp 0=at 0;");
        alone.stuck(0);
        CHECKS.due("without the ground", alone.thought(3), 6);
        CHECKS.due("one: up by 1", alone.tests(0), 1);
        CHECKS.due("by 1", alone.tests(1), 2);
        // No button tells floor 1 by lamp 0; what stays dark is then brought up to floor 3.
        OldLift split = lift(4, "relay a=(at 1 or at 3)*(1-any);up=call 0;down=call 1;lamp 0=a*at 1;lamp 1=at 0;");
        split.stuck(0);
        CHECKS.due("floors 1, 2, 3", split.thought(3), 14);
        CHECKS.due("two", split.tests(0), 2);
        CHECKS.due("none first", split.tests(1), 0);
    }

    /** All 256 sorts of lamps behind one tick: the relays shift, and shine while the door is open. */
    private static void allLamps() {
        StringBuilder lamps = new StringBuilder();
        for (int i = 0; i < 8; i++) {
            lamps.append("lamp " + i + "=open*" + (char) ('a' + i) + ";");
        }
        OldLift lift = lift(5, "relay a=call 0 or h;relay b=a;relay c=b;relay d=c;relay e=d;relay f=e;relay g=f;"
            + "relay h=g and not call 1;up=call 2;down=call 3;door=call 4;" + lamps);
        CHECKS.due("reached", lift.count(2), 256 * 5 * 2);
        CHECKS.due("dark", lift.stuck(0), 256 * 5 + 5);
        CHECKS.due("four ticks down are too many", lift.tests(0), NONE);
        CHECKS.due("all on", lift.stuck(255), 5);
        CHECKS.due("in all", lift.thought(1), 255);
        CHECKS.due("no lamp tells the floor", lift.tests(0), NONE);
        CHECKS.due("held open, all relays on", lift.tried(4, 255), 5);
        CHECKS.due("shut", lift.tried(2, 0), 5);
        CHECKS.due("up", lift.tried(2, 0), 4);
        CHECKS.due("three more", lift.tests(0), 3);
        CHECKS.due("by floor 2", lift.tests(1), 3);
    }

    private static void withoutCircuit() {
        OldLift lift = new OldLift();
        CHECKS.due("press", lift.press(0), 0);
        CHECKS.due("reached", lift.count(2), 1);
        CHECKS.due("stuck", lift.stuck(0), 1);
        CHECKS.due("stuck with a lamp", lift.stuck(1), 0);
        CHECKS.due("no never", lift.never(0, 0), NONE);
        CHECKS.due("forgets", lift.forgets(3, 1, 1), 0);
    }
}
