import java.util.NoSuchElementException;

/** The bounds of promises 6 to 12, the circuit and what is reached: a test for each sentence that names one. */
public final class BoundsCircuitTest {
    private static final Checks CHECKS = new Checks("BoundsCircuitTest");
    private static final int NONE = OldLift.NONE;
    private static final int LOW = Integer.MIN_VALUE;
    private static final int HIGH = Integer.MAX_VALUE;

    /** Eight relays count the ticks, from 255 on to 0 again. */
    private static final String COUNTER = "relay a=not a;relay b=b+a=1;relay c=c+a*b=1;relay d=d+a*b*c=1;"
        + "relay e=e+a*b*c*d=1;relay f=f+a*b*c*d*e=1;relay g=g+a*b*c*d*e*f=1;relay h=h+a*b*c*d*e*f*g=1;";

    private BoundsCircuitTest() { }

    public static void main(String[] args) {
        start();
        again();
        buttons();
        lampsAsBits();
        relaysWithoutLine();
        notZero();
        callAndAny();
        atAndOpen();
        asTheTickBegins();
        theDoorFirst();
        justOne();
        bumpsAtBothEnds();
        lamps();
        look();
        holds();
        neverWhat();
        neverRows();
        firstInOrder();
        longRow();
        allStates();
        patienceBounds();
        patienceCounted();
        atThisFloor();
        forgottenRows();
        CHECKS.end();
    }

    private static void state(OldLift lift, int relays, int floor, int door, int bumps) {
        CHECKS.due("relays", lift.look(0), relays);
        CHECKS.due("floor", lift.look(1), floor);
        CHECKS.due("door", lift.look(2), door);
        CHECKS.due("bumps", lift.look(4), bumps);
    }

    private static void start() {
        CHECKS.by("START: all off, FLOOR 0, shut; BUMPS and TICKS are 0.");
        OldLift lift = Texts.liftWith(4, "relay a=1;relay h=1;up=1;door=1;");
        state(lift, 0, 0, 0, 0);
        CHECKS.due("ticks", lift.look(5), 0);
        CHECKS.due("lamps", lift.look(3), 0);
        OldLift lit = Texts.liftWith(4, "lamp 0=not a;lamp 1=at 0;lamp 2=not open;lamp 3=a;lamp 4=at 1;lamp 5=open;");
        CHECKS.due("by the lamps", lit.look(3), 7);
    }

    private static void again() {
        CHECKS.by("START again: true.");
        OldLift lift = Texts.liftWith(2, "relay h=any;up=call 1;door=call 0;lamp 0=h;never at 1;");
        for (int button : new int[] {1, 1, 0}) {
            lift.press(button);
        }
        state(lift, 128, 1, 1, 1);
        lift.stuck(1);
        int thought = lift.thought(0);
        CHECKS.yes("again", lift.again());
        state(lift, 0, 0, 0, 0);
        CHECKS.due("ticks", lift.look(5), 0);
        CHECKS.yes("at start, too", lift.again());
        state(lift, 0, 0, 0, 0);
        CHECKS.due("the circuit stays", lift.count(1), 1);
        CHECKS.due("what is thought stays", lift.thought(0), thought);
        CHECKS.due("from start on", lift.press(1), 1);
        state(lift, 128, 1, 0, 0);
        CHECKS.yes("without a circuit", new OldLift().again());
    }

    private static void buttons() {
        CHECKS.by("A TICK with a BUTTON (NONE: none): the LAMPS behind it as bits; NONE: no such BUTTON.");
        for (int floors = 2; floors <= 6; floors++) {
            OldLift lift = Texts.liftWith(floors, "relay a=any;lamp 1=a;lamp 2=1;");
            CHECKS.due("none", lift.press(NONE), 4);
            for (int button = 0; button < floors; button++) {
                CHECKS.due("button " + button, lift.press(button), 6);
            }
            CHECKS.due("ticks", lift.look(5), floors + 1);
            for (int button : new int[] {LOW, -3, -2, floors, floors + 1, 6, HIGH}) {
                CHECKS.due("no button " + button, lift.press(button), NONE);
            }
            CHECKS.due("no tick", lift.look(5), floors + 1);
            CHECKS.due("no relay", lift.look(0), 1);
        }
    }

    private static void lampsAsBits() {
        CHECKS.by("the LAMPS behind it as bits");
        for (int n = 0; n < 8; n++) {
            OldLift lift = Texts.liftWith(4, "lamp " + n + "=1;");
            CHECKS.due("lamp " + n, lift.press(0), 1 << n);
            CHECKS.due("lamp " + n, lift.look(3), 1 << n);
        }
        OldLift all = Texts.liftWith(4, "lamp 0=1;lamp 1=1;lamp 2=1;lamp 3=1;lamp 4=1;lamp 5=1;lamp 6=1;lamp 7=1;");
        CHECKS.due("all", all.press(NONE), 255);
        CHECKS.due("no lamp told", Texts.liftWith(4, "relay a=1;").press(NONE), 0);
    }

    private static void relaysWithoutLine() {
        CHECKS.by("each RELAY that has a line is on if its E is not 0, by the RELAYS as they were (one without is off)");
        for (int i = 0; i < 8; i++) {
            char x = (char) ('a' + i);
            OldLift lift = Texts.liftWith(4, "relay " + x + "=1;");
            lift.press(0);
            CHECKS.due("it alone", lift.look(0), 1 << i);
            lift.press(0);
            CHECKS.due("and stays", lift.look(0), 1 << i);
            // Its line is gone with the next circuit.
            Texts.readCircuit(lift, "lamp 0=" + x + ";relay " + (char) ('a' + (i + 1) % 8) + "=1-" + x + ";");
            CHECKS.due("off", lift.press(0), 0);
            CHECKS.due("the other one", lift.look(0), 1 << (i + 1) % 8);
        }
        OldLift swap = Texts.liftWith(4, "relay a=not b;relay b=a;");
        long[] rows = {1, 3, 2, 0, 1};
        for (long row : rows) {
            swap.press(NONE);
            CHECKS.due("as they were", swap.look(0), row);
        }
    }

    private static void notZero() {
        CHECKS.by("is on if its E is not 0");
        String[][] values = {{"0", "0"}, {"1", "1"}, {"2", "1"}, {"9999", "1"}, {"0-1", "1"}, {"8192*8192*32", "1"},
            {"8192*8192*64", "0"}, {"5-5", "0"}};
        for (String[] value : values) {
            int on = Integer.parseInt(value[1]);
            OldLift lift = Texts.liftWith(4, "relay a=" + value[0] + ";lamp 7=" + value[0] + ";never " + value[0] + ";up=" + value[0] + ";");
            CHECKS.due("lamp by " + value[0], lift.press(NONE), on * 128);
            CHECKS.due("relay by " + value[0], lift.look(0), on);
            CHECKS.due("up by " + value[0], lift.look(1), on);
            CHECKS.due("never by " + value[0], lift.never(0, 0), 1 - on);
            OldLift door = Texts.liftWith(4, "door=" + value[0] + ";");
            door.press(NONE);
            CHECKS.due("door by " + value[0], door.look(2), on);
            OldLift down = Texts.liftWith(4, "down=" + value[0] + ";");
            down.press(NONE);
            CHECKS.due("down by " + value[0], down.look(4), on);
        }
    }

    private static void callAndAny() {
        CHECKS.by("call N: the BUTTON is N; any: there is one");
        OldLift lift = Texts.liftWith(6, "relay a=call 0;relay b=call 1;relay c=call 2;relay d=call 3;relay e=call 4;"
            + "relay f=call 5;relay g=any;");
        for (int button = 0; button < 6; button++) {
            lift.press(button);
            CHECKS.due("button " + button, lift.look(0), 64 + (1 << button));
        }
        lift.press(NONE);
        CHECKS.due("none", lift.look(0), 0);
    }

    private static void atAndOpen() {
        CHECKS.by("at N: the CAR is there; open: the DOOR is");
        OldLift lift = Texts.liftWith(6, "up=any;door=1-any;lamp 0=at 0;lamp 1=at 1;lamp 2=at 2;lamp 3=at 3;lamp 4=at 4;"
            + "lamp 5=at 5;lamp 6=open;lamp 7=any;");
        CHECKS.due("start", lift.look(3), 1);
        for (int floor = 0; floor < 6; floor++) {
            CHECKS.due("it opens at " + floor, lift.press(NONE), 64 + (1 << floor));
            CHECKS.due("it shuts at " + floor, lift.press(0), 1 << floor);
            CHECKS.due("it goes up", lift.press(0), 1 << Math.min(floor + 1, 5));
        }
    }

    private static void asTheTickBegins() {
        CHECKS.by("at N: the CAR is there; open: the DOOR is, both as the TICK begins.");
        OldLift lift = Texts.liftWith(2, "relay a=at 0;relay b=at 1;relay c=open;up=at 0;door=at 1 and not open;");
        lift.press(NONE);
        state(lift, 1, 1, 0, 0);
        lift.press(NONE);
        state(lift, 2, 1, 1, 0);
        lift.press(NONE);
        state(lift, 6, 1, 0, 0);
        CHECKS.by("(2) up, down, door are what their E come to (0 without one), by the RELAYS as they are now, all else as in (1).");
        OldLift now = Texts.liftWith(4, "relay a=call 1;relay b=call 2;relay c=call 3;up=a;down=b;door=c;");
        now.press(1);
        state(now, 1, 1, 0, 0);
        now.press(NONE);
        state(now, 0, 1, 0, 0);
        now.press(2);
        state(now, 2, 0, 0, 0);
        now.press(3);
        state(now, 4, 0, 1, 0);
        OldLift without = Texts.liftWith(4, "relay a=1;lamp 0=1;");
        without.press(0);
        state(without, 1, 0, 0, 0);
    }

    private static void theDoorFirst() {
        CHECKS.by("(3) If the DOOR is open it shuts, but not if door is not 0");
        OldLift lift = Texts.liftWith(4, "up=call 1;down=call 2;door=call 0+call 3;");
        lift.press(0);
        state(lift, 0, 0, 1, 0);
        lift.press(0);
        state(lift, 0, 0, 1, 0);
        lift.press(2);
        CHECKS.due("it shuts, and does not bump", lift.look(4), 0);
        state(lift, 0, 0, 0, 0);
        lift.press(3);
        lift.press(1);
        state(lift, 0, 0, 0, 0);
        lift.press(1);
        state(lift, 0, 1, 0, 0);
        OldLift all = Texts.liftWith(4, "up=1;door=1;relay a=1;");
        all.press(NONE);
        state(all, 1, 1, 0, 0);
        OldLift open = Texts.liftWith(4, "up=open;door=1;");
        open.press(NONE);
        open.press(NONE);
        state(open, 0, 0, 1, 0);
    }

    private static void justOne() {
        CHECKS.by("else if just one of up and down is not 0 the CAR goes a FLOOR up (down)");
        for (int up = 0; up < 2; up++) {
            for (int down = 0; down < 2; down++) {
                OldLift lift = Texts.liftWith(4, "up=at 0*any+" + 7 * up + "*(1-any);down=" + 9 * down + "*(1-any);door=1-any;");
                lift.press(0);
                lift.press(NONE);
                state(lift, 0, 1 + up - down, up == down ? 1 : 0, 0);
            }
        }
        CHECKS.by("else if door is not 0 the DOOR opens.");
        OldLift rests = Texts.liftWith(4, "up=0;down=0;door=0;");
        rests.press(0);
        state(rests, 0, 0, 0, 0);
    }

    private static void bumpsAtBothEnds() {
        CHECKS.by("but stays where there is none: a BUMP");
        for (int floors = 2; floors <= 6; floors++) {
            OldLift lift = Texts.liftWith(floors, "up=call 1;down=call 0;door=1-any+at 0+at " + (floors - 1) + ";");
            lift.press(0);
            state(lift, 0, 0, 0, 1);
            for (int i = 1; i < floors; i++) {
                lift.press(1);
                state(lift, 0, i, 0, 1);
            }
            lift.press(1);
            state(lift, 0, floors - 1, 0, 2);
            lift.press(1);
            state(lift, 0, floors - 1, 0, 3);
            for (int i = floors - 2; i >= 0; i--) {
                lift.press(0);
                state(lift, 0, i, 0, 3);
            }
            lift.press(0);
            state(lift, 0, 0, 0, 4);
        }
        OldLift stays = Texts.liftWith(2, "up=1;down=1;door=0;");
        stays.press(0);
        state(stays, 0, 0, 0, 0);
    }

    private static void lamps() {
        CHECKS.by("LAMP N is on if its E is not 0, by the STATE there is, without a BUTTON.");
        OldLift lift = Texts.liftWith(2, "relay a=any;up=any;lamp 0=any;lamp 1=call 0;lamp 2=a;lamp 3=at 1;lamp 4=at 0;lamp 5=call 1;");
        CHECKS.due("start", lift.look(3), 16);
        CHECKS.due("behind the tick", lift.press(0), 12);
        CHECKS.due("behind it still", lift.look(3), 12);
        CHECKS.due("the relay falls", lift.press(NONE), 8);
    }

    private static void look() {
        CHECKS.by("What 0: RELAYS as bits (a lowest), 1: FLOOR, 2: 1 if the DOOR is open, 3: LAMPS as bits, 4: BUMPS, 5: TICKS. NoSuchElementException: another what.");
        OldLift lift = Texts.liftWith(2, "relay a=1;relay h=1;up=call 1;door=call 0;lamp 7=open;");
        lift.press(1);
        lift.press(1);
        lift.press(0);
        long[] due = {129, 1, 1, 128, 1, 3};
        for (int what = -3; what < 9; what++) {
            boolean known = what >= 0 && what < 6;
            CHECKS.due("look " + what, looked(lift, what), known ? due[what] : Long.MIN_VALUE);
        }
        CHECKS.due("look far off", looked(lift, HIGH), Long.MIN_VALUE);
        CHECKS.due("look far off", looked(lift, LOW), Long.MIN_VALUE);
    }

    private static long looked(OldLift lift, int what) {
        try {
            return lift.look(what);
        } catch (NoSuchElementException e) {
            return Long.MIN_VALUE;
        }
    }

    private static void holds() {
        CHECKS.by("A never line HOLDS if its E is 0 in all REACHED STATES (without a BUTTON)");
        OldLift lift = Texts.liftWith(4, "up=call 1*not at 2;never at 2;never at 3;never any;never call 1;never at 0;never 0;");
        long[] holds = {0, 1, 1, 1, 0, 1};
        for (int line = 0; line < 6; line++) {
            CHECKS.due("line " + line, lift.never(line, 0), holds[line]);
        }
        CHECKS.due("three states", lift.count(2), 3);
        CHECKS.by("REACHED are START and all STATES that TICKS with any BUTTONS bring.");
        OldLift left = Texts.liftWith(4, "relay a=1;never not a;never a;");
        CHECKS.due("start counts, though no tick brings it", left.never(0, 1), 0);
        CHECKS.due("what a tick brings", left.never(1, 1), 1);
        CHECKS.due("two states", left.count(2), 2);
        left.press(0);
        CHECKS.due("from start on, wherever the car is", left.never(0, 1), 0);
        CHECKS.due("two states still", left.count(2), 2);
    }

    private static void neverWhat() {
        CHECKS.by("Of a never line, what 0: 1 it HOLDS, 0 not, 1: BUTTONS of its ROW; NONE: no such line, what, it HOLDS (1).");
        OldLift lift = Texts.liftWith(4, "never 1;never 0;");
        CHECKS.due("broken", lift.never(0, 0), 0);
        CHECKS.due("its row", lift.never(0, 1), 0);
        CHECKS.due("holds", lift.never(1, 0), 1);
        CHECKS.due("no row", lift.never(1, 1), NONE);
        for (int line : new int[] {LOW, -1, 2, 3, 5, 6, HIGH}) {
            CHECKS.due("no such line", lift.never(line, 0), NONE);
            CHECKS.due("no such line", lift.never(line, 1), NONE);
            CHECKS.due("no such line", lift.neverRow(line, 0), NONE);
        }
        for (int what : new int[] {LOW, -1, 2, HIGH}) {
            CHECKS.due("no such what", lift.never(0, what), NONE);
            CHECKS.due("no such what", lift.never(1, what), NONE);
        }
        CHECKS.due("no circuit", new OldLift().never(0, 0), NONE);
        OldLift six = Texts.liftWith(4, "never 0;never 0;never 0;never 0;never 0;never a;relay a=1;");
        CHECKS.due("the sixth", six.never(5, 1), 1);
        CHECKS.due("a seventh", six.never(6, 1), NONE);
    }

    private static void neverRows() {
        CHECKS.by("The i-th BUTTON of its ROW: 0 none, 1 + FLOOR; NONE: none such.");
        OldLift lift = Texts.liftWith(6, "relay a=call 5;relay b=a*(1-any);relay c=b*call 0;never c;never 1;never 0;never a;");
        CHECKS.due("three buttons", lift.never(0, 1), 3);
        long[] row = {NONE, 6, 0, 1, NONE, NONE};
        for (int i = -1; i < 5; i++) {
            CHECKS.due("button " + i, lift.neverRow(0, i), row[i + 1]);
        }
        CHECKS.due("far off", lift.neverRow(0, HIGH), NONE);
        CHECKS.due("far off", lift.neverRow(0, LOW), NONE);
        for (int i = -1; i < 2; i++) {
            CHECKS.due("a row of none", lift.neverRow(1, i), NONE);
            CHECKS.due("it holds", lift.neverRow(2, i), NONE);
            CHECKS.due("a row of one", lift.neverRow(3, i), i == 0 ? 6 : NONE);
        }
    }

    private static void firstInOrder() {
        CHECKS.by("the fewest BUTTONS from START on to a STATE in which it is not, of as many the first in order (no BUTTON ahead of FLOOR 0, that ahead of 1, ..).");
        for (int least = NONE; least < 6; least++) {
            // On by this button and by all that come later in order.
            StringBuilder e = new StringBuilder(least == NONE ? "1" : "0");
            for (int n = Math.max(least, 0); n < 6; n++) {
                e.append("+call ").append(n);
            }
            OldLift lift = Texts.liftWith(6, "relay a=" + e + ";relay b=a*(" + e + ");never a;never b;");
            CHECKS.due("one", lift.never(0, 1), 1);
            CHECKS.due("the first", lift.neverRow(0, 0), 1 + least);
            CHECKS.due("two", lift.never(1, 1), 2);
            CHECKS.due("the first", lift.neverRow(1, 0), 1 + least);
            CHECKS.due("the first", lift.neverRow(1, 1), 1 + least);
        }
        // Fewer buttons are ahead of earlier ones: 5 alone, or none three times.
        OldLift fewer = Texts.liftWith(6, "relay a=1;relay b=a;relay c=b or call 5;never c;");
        CHECKS.due("one button", fewer.never(0, 1), 1);
        CHECKS.due("button 5", fewer.neverRow(0, 0), 6);
        // The first button counts ahead of the second: 0 then 5 is ahead of 1 then none.
        OldLift second = Texts.liftWith(6, "relay a=call 0;relay b=call 1;relay c=a*call 5+b*(1-any);never c;");
        CHECKS.due("two", second.never(0, 1), 2);
        CHECKS.due("0", second.neverRow(0, 0), 1);
        CHECKS.due("then 5", second.neverRow(0, 1), 6);
    }

    private static void longRow() {
        CHECKS.by("else its ROW: the fewest BUTTONS from START on to a STATE in which it is not");
        // The car goes up whenever the relays come to 255: at ticks 255, 511, .., 1279.
        OldLift lift = Texts.liftWith(6, COUNTER + "up=a*b*c*d*e*f*g*h;never at 5;never at 1;never h*g*f*e*d*c*b*(1-a);");
        CHECKS.due("states", lift.count(2), 255 + 5 * 256);
        CHECKS.due("ticks to floor 5", lift.never(0, 1), 1279);
        CHECKS.due("ticks to floor 1", lift.never(1, 1), 255);
        CHECKS.due("ticks to 254", lift.never(2, 1), 254);
        for (int i : new int[] {0, 1, 254, 255, 1277, 1278}) {
            CHECKS.due("button " + i, lift.neverRow(0, i), 0);
        }
        CHECKS.due("behind the last one", lift.neverRow(0, 1279), NONE);
        CHECKS.due("behind the last one", lift.neverRow(1, 255), NONE);
        CHECKS.due("the last one", lift.neverRow(1, 254), 0);
        // The same with a button in every tick but no other.
        OldLift pressed = Texts.liftWith(6, "relay a=(a+any=1);relay b=(b+a*any=1);relay c=(c+a*b*any=1);up=a*b*c*any;never at 5;");
        CHECKS.due("ticks to floor 5", pressed.never(0, 1), 39);
        CHECKS.due("first", pressed.neverRow(0, 0), 1);
        CHECKS.due("last", pressed.neverRow(0, 38), 1);
        CHECKS.due("behind it", pressed.neverRow(0, 39), NONE);
    }

    private static void allStates() {
        CHECKS.by("these are a STATE.");
        String relays = "relay a=call 0 or h;relay b=a;relay c=b;relay d=c;relay e=d;relay f=e;relay g=f;relay h=g and not call 1;";
        for (int floors = 5; floors <= 6; floors++) {
            String last = "never 0;never a*b*c*d*e*f*g*h*open*at " + (floors - 1) + ";";
            OldLift lift = Texts.liftWith(floors, relays + "up=call 2;down=call 3;door=call 4;" + last);
            CHECKS.due("all of them", lift.count(2), 256 * floors * 2);
            CHECKS.due("holds", lift.never(0, 0), 1);
            CHECKS.due("the fullest", lift.never(1, 0), 0);
        }
    }

    private static void patienceBounds() {
        CHECKS.by("FORGOTTEN with a PATIENCE (1 to 60) is a FLOOR");
        OldLift lift = Texts.liftWith(4, "door=at 0;");
        for (int patience : new int[] {1, 2, 59, 60}) {
            CHECKS.due("floor 0 opens and shuts by itself", lift.forgets(0, patience, 0), 0);
            CHECKS.due("floor 1 is never reached", lift.forgets(1, patience, 0), 1);
            CHECKS.due("from start", lift.forgets(1, patience, 1), 0);
            CHECKS.due("no row", lift.forgets(0, patience, 1), NONE);
            CHECKS.due("no button", lift.forgetsRow(0, patience, 0), NONE);
            CHECKS.due("no button", lift.forgetsRow(1, patience, 0), NONE);
        }
        for (int patience : new int[] {LOW, -1, 0, 61, 62, HIGH}) {
            for (int floor = 0; floor < 2; floor++) {
                CHECKS.due("no patience", lift.forgets(floor, patience, 0), NONE);
                CHECKS.due("no patience", lift.forgets(floor, patience, 1), NONE);
                CHECKS.due("no patience", lift.forgetsRow(floor, patience, 0), NONE);
            }
        }
        CHECKS.by("A FLOOR with a PATIENCE, what 0: 1 it is FORGOTTEN, 0 not, 1: BUTTONS of the ROW; NONE: others, it is not (1).");
        for (int floor : new int[] {LOW, -1, 4, 5, 6, HIGH}) {
            CHECKS.due("no floor", lift.forgets(floor, 5, 0), NONE);
            CHECKS.due("no floor", lift.forgetsRow(floor, 5, 0), NONE);
        }
        for (int what : new int[] {LOW, -1, 2, HIGH}) {
            CHECKS.due("no what", lift.forgets(0, 5, what), NONE);
            CHECKS.due("no what", lift.forgets(3, 5, what), NONE);
        }
        CHECKS.due("the top floor", lift.forgets(3, 5, 0), 1);
    }

    /** The button sets six relays to 63; each tick behind it counts on: n - 2 behind tick n. */
    private static String opensAt(int value) {
        StringBuilder text = new StringBuilder();
        StringBuilder carry = new StringBuilder("1");
        StringBuilder door = new StringBuilder("door=(1-any)");
        for (int i = 0; i < 6; i++) {
            char x = (char) ('a' + i);
            text.append("relay " + x + "=(" + x + "+" + carry + "=1)*(1-any)+any;");
            carry.append("*" + x);
            door.append((value >> i & 1) == 1 ? "*" + x : "*(1-" + x + ")");
        }
        return text.append(door).append(";").toString();
    }

    private static void patienceCounted() {
        CHECKS.by("the DOOR is open at this FLOOR behind none of PATIENCE TICKS (that one counted)");
        OldLift atOnce = Texts.liftWith(2, "door=any;");
        CHECKS.due("behind the first tick", atOnce.forgets(0, 1, 0), 0);
        for (int ticks = 2; ticks <= 61; ticks++) {
            OldLift lift = Texts.liftWith(2, opensAt(ticks - 2));
            CHECKS.due("one too few of " + ticks, lift.forgets(0, ticks - 1, 0), 1);
            CHECKS.due("forgotten from start", lift.forgets(0, ticks - 1, 1), 0);
            CHECKS.due("one too few of " + ticks, lift.forgets(0, 1, 0), 1);
            if (ticks <= 60) {
                CHECKS.due("just enough: " + ticks, lift.forgets(0, ticks, 0), 0);
                CHECKS.due("no row", lift.forgets(0, ticks, 1), NONE);
                CHECKS.due("more than enough", lift.forgets(0, 60, 0), 0);
            }
        }
        // Behind the first button h is on, and the next one sets one less: 60 ticks do from start, from there 61.
        String slower = opensAt(58).replace("relay a=(a+1=1)*(1-any)+any;", "relay a=(1-a)*(1-any)+any*(1-h);relay h=h or any;");
        OldLift second = Texts.liftWith(2, slower);
        CHECKS.due("59 are too few from start", second.forgets(0, 59, 1), 0);
        CHECKS.due("60 are too few behind a button", second.forgets(0, 60, 1), 1);
        CHECKS.due("that button", second.forgetsRow(0, 60, 0), 1);
        // Open behind the first tick alone counts, though it shuts then.
        OldLift shuts = Texts.liftWith(2, "door=any*(1-open);relay a=open;");
        CHECKS.due("from an open door the button shuts it", shuts.forgets(0, 1, 1), 1);
        CHECKS.due("and none opens it again", shuts.forgets(0, 60, 1), 1);
        CHECKS.by("with its BUTTON in one TICK and none in those behind");
        OldLift held = Texts.liftWith(2, "relay a=any;relay b=a*any;door=b;");
        CHECKS.due("one press alone does not do", held.forgets(0, 60, 1), 0);
        OldLift other = Texts.liftWith(2, "relay a=a or call 1;door=a;");
        CHECKS.due("its own button does not do", other.forgets(0, 60, 0), 1);
    }

    private static void atThisFloor() {
        CHECKS.by("the DOOR is open at this FLOOR");
        OldLift lift = Texts.liftWith(3, "relay a=call 1 or a*(1-at 1);up=a*at 0;door=call 0+at 1;");
        CHECKS.due("up in a tick, open in the second", lift.forgets(1, 2, 1), 1);
        CHECKS.due("the open door at 0 costs one more", lift.forgets(1, 3, 0), 0);
        CHECKS.due("from the shut one", lift.forgets(1, 1, 1), 0);
        CHECKS.due("open elsewhere does not count", lift.forgets(2, 60, 1), 0);
        CHECKS.due("its button opens at 0 alone", lift.forgets(0, 60, 1), 1);
        CHECKS.due("from floor 1 on", lift.forgetsRow(0, 60, 0), 2);
    }

    private static void forgottenRows() {
        CHECKS.by("the ROW is that to the first such STATE (fewest BUTTONS, first in order).");
        // Only behind buttons 2, none, 1 does a press no longer open the door.
        OldLift lift = Texts.liftWith(3, "relay a=call 2;relay b=a*(1-any);relay c=b*call 1 or c;door=(1-c)*(1-open+any);");
        CHECKS.due("three buttons", lift.forgets(0, 60, 1), 3);
        CHECKS.due("forgotten", lift.forgets(0, 60, 0), 1);
        CHECKS.by("The i-th BUTTON of that ROW: 0 none, 1 + FLOOR; NONE: none such.");
        long[] row = {NONE, 3, 0, 2, NONE, NONE};
        for (int i = -1; i < 5; i++) {
            CHECKS.due("button " + i, lift.forgetsRow(0, 60, i), row[i + 1]);
        }
        CHECKS.due("far off", lift.forgetsRow(0, 60, HIGH), NONE);
        CHECKS.due("far off", lift.forgetsRow(0, 60, LOW), NONE);
        CHECKS.due("a row of none", lift.forgets(1, 60, 1), 0);
        CHECKS.due("a row of none", lift.forgetsRow(1, 60, 0), NONE);
        OldLift never = Texts.liftWith(2, "door=1;");
        CHECKS.due("not forgotten", never.forgets(0, 1, 0), 0);
        CHECKS.due("no row", never.forgetsRow(0, 1, 0), NONE);
    }
}
