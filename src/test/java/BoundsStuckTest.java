/** The bounds of promises 13 to 16, the stuck car: a test for each sentence that names one. */
public final class BoundsStuckTest {
    private static final Checks CHECKS = new Checks("BoundsStuckTest");
    private static final int NONE = OldLift.NONE;
    private static final int LOW = Integer.MIN_VALUE;
    private static final int HIGH = Integer.MAX_VALUE;

    /** All 3,072 states of six floors: the relays shift by the ticks, buttons turn them, the car goes anywhere. */
    private static final String EVERYTHING = "relay a=call 0 or h;relay b=a;relay c=b;relay d=c;relay e=d;relay f=e;"
        + "relay g=f;relay h=g and not call 1;up=call 2;down=call 3;door=call 4;";

    private BoundsStuckTest() { }

    public static void main(String[] args) {
        lampsBounds();
        justTheseLamps();
        wherever();
        buttonsTried();
        noneWasStuck();
        broughtTogether();
        thoughtOf();
        allThought();
        noStateThought();
        testsByNumber();
        firstInOrder();
        moreThanThree();
        chosenByLamps();
        whateverTheyShow();
        eachGroup();
        askedAnew();
        noTests();
        CHECKS.end();
    }

    private static String lampsOfRelays() {
        StringBuilder text = new StringBuilder();
        for (int i = 0; i < 8; i++) {
            text.append("lamp " + i + "=" + (char) ('a' + i) + ";");
        }
        return text.toString();
    }

    private static void lampsBounds() {
        CHECKS.by("The CAR is STUCK, LAMPS (0 to 255, as bits) are seen: how many STATES are THOUGHT; NONE: others (it is as it was).");
        OldLift lift = Texts.liftWith(6, EVERYTHING + lampsOfRelays());
        for (int lamps = 0; lamps < 256; lamps++) {
            CHECKS.due("stuck " + lamps, lift.stuck(lamps), 12);
        }
        CHECKS.due("the last ones", lift.thought(1), 255);
        CHECKS.due("no lamp tells the floor", lift.tests(0), NONE);
        for (int lamps : new int[] {LOW, -256, -1, 256, 257, 511, HIGH}) {
            CHECKS.due("stuck " + lamps, lift.stuck(lamps), NONE);
            CHECKS.due("as it was", lift.thought(1), 255);
            CHECKS.due("tried with lamps " + lamps, lift.tried(NONE, lamps), NONE);
            CHECKS.due("as it was", lift.thought(0), 12);
        }
        CHECKS.due("all relays shift, all doors shut", lift.tried(NONE, 255), 6);
        CHECKS.due("but for the one that is turned", lift.tried(1, 127), 6);
        CHECKS.due("which then leaves the first one off", lift.tried(1, 127), 0);
        CHECKS.due("no lamp", lift.stuck(0), 12);
        CHECKS.due("none", lift.tried(NONE, 0), 6);
    }

    private static void justTheseLamps() {
        CHECKS.by("at first those REACHED with just these LAMPS on");
        OldLift lift = Texts.liftWith(2, "relay a=call 0;relay b=call 1;lamp 0=a;lamp 1=b or a;lamp 7=1;");
        long[] due = {1, 0, 1, 1};
        for (int lamps = 0; lamps < 4; lamps++) {
            CHECKS.due("with lamp 7", lift.stuck(128 + lamps), due[lamps]);
            CHECKS.due("without it", lift.stuck(lamps), 0);
        }
        CHECKS.due("one more lamp", lift.stuck(128 + 4 + 3), 0);
        OldLift bare = new OldLift();
        CHECKS.due("no circuit: start alone", bare.stuck(0), 1);
        CHECKS.due("no lamp of it is on", bare.stuck(1), 0);
        CHECKS.due("nor all", bare.stuck(255), 0);
    }

    private static void wherever() {
        CHECKS.by("STUCK: one sees LAMPS alone.");
        OldLift lift = Texts.liftWith(4, "up=any;lamp 0=at 3;");
        lift.press(0);
        lift.press(0);
        CHECKS.due("all floors but the top", lift.stuck(0), 3);
        CHECKS.due("floors", lift.thought(3), 7);
        CHECKS.due("one tick on", lift.tried(0, 0), 2);
        CHECKS.due("the car stays", lift.look(1), 2);
        CHECKS.due("no tick", lift.look(5), 2);
        lift.press(0);
        CHECKS.due("a press leaves what is thought", lift.thought(3), 6);
        lift.again();
        CHECKS.due("start does, too", lift.thought(3), 6);
    }

    private static void buttonsTried() {
        CHECKS.by("A BUTTON (NONE: none) was tried, LAMPS seen then: how many STATES are THOUGHT; NONE: no such BUTTON, others, none was STUCK since the CIRCUIT.");
        for (int floors = 2; floors <= 6; floors++) {
            OldLift lift = Texts.liftWith(floors, "relay a=any;relay h=call " + (floors - 1) + ";lamp 0=a;lamp 7=h;");
            CHECKS.due("stuck", lift.stuck(0), 1);
            CHECKS.due("none", lift.tried(NONE, 0), 1);
            for (int button = 0; button < floors; button++) {
                CHECKS.due("button " + button, lift.tried(button, button == floors - 1 ? 129 : 1), 1);
            }
            for (int button : new int[] {LOW, -3, -2, floors, floors + 1, 7, HIGH}) {
                CHECKS.due("no button " + button, lift.tried(button, 1), NONE);
                CHECKS.due("as it was", lift.thought(1), 129);
            }
            CHECKS.due("other lamps", lift.tried(0, 0), 0);
        }
    }

    private static void noneWasStuck() {
        CHECKS.by("none was STUCK since the CIRCUIT.");
        OldLift lift = new OldLift();
        CHECKS.due("a new object", lift.tried(NONE, 0), NONE);
        CHECKS.due("a call that is refused", lift.stuck(256), NONE);
        CHECKS.due("is none", lift.tried(NONE, 0), NONE);
        CHECKS.due("nothing is thought", lift.thought(0), NONE);
        CHECKS.due("stuck", lift.stuck(0), 1);
        CHECKS.due("tried", lift.tried(NONE, 0), 1);
        Texts.readCircuit(lift, "lamp 0=1;");
        CHECKS.due("a circuit", lift.tried(NONE, 1), NONE);
        CHECKS.due("stuck", lift.stuck(1), 1);
        Texts.readCircuit(lift, "lamp 0=1");
        CHECKS.due("a fault is no circuit", lift.tried(NONE, 1), 1);
        lift.floors(7);
        CHECKS.due("no house", lift.tried(NONE, 1), 1);
        lift.floors(4);
        CHECKS.due("a house", lift.tried(NONE, 0), NONE);
        CHECKS.due("stuck with what is never seen", lift.stuck(9), 0);
        CHECKS.due("that is stuck, too", lift.tried(NONE, 0), 0);
        CHECKS.due("and thought of", lift.thought(0), 0);
    }

    private static void broughtTogether() {
        CHECKS.by("those to which it brings them, with just these LAMPS on.");
        OldLift lift = Texts.liftWith(6, "up=1-any;down=call 0;lamp 3=at 5;");
        CHECKS.due("five floors", lift.stuck(0), 5);
        CHECKS.due("up: 1 to 4 stay dark", lift.tried(NONE, 0), 4);
        CHECKS.due("up: 5 shines", lift.tried(NONE, 8), 1);
        CHECKS.due("5 alone", lift.thought(3), 32);
        CHECKS.due("again", lift.stuck(0), 5);
        CHECKS.due("down: 0 and 1 come together", lift.tried(0, 0), 4);
        CHECKS.due("again", lift.tried(0, 0), 3);
        CHECKS.due("again", lift.tried(0, 0), 2);
        CHECKS.due("again", lift.tried(0, 0), 1);
        CHECKS.due("at 0", lift.thought(3), 1);
        CHECKS.due("another button moves nothing", lift.tried(1, 0), 1);
        CHECKS.due("what is not seen", lift.tried(1, 8), 0);
    }

    private static void thoughtOf() {
        CHECKS.by("Of what is THOUGHT, what 0: how many, 1: RELAYS on in all, 2: in some, 3: FLOORS as bits, 4: the DOOR 0 shut, 1 open, 2 either");
        OldLift lift = Texts.liftWith(2, "relay a=call 0;relay h=h or a;up=call 1;door=call 0;lamp 0=open or at 1;");
        CHECKS.due("shut at 0: all off, or h alone", lift.stuck(0), 2);
        long[] shut = {2, 0, 128, 1, 0};
        for (int what = 0; what < 5; what++) {
            CHECKS.due("thought " + what, lift.thought(what), shut[what]);
        }
        CHECKS.due("opens", lift.tried(0, 1), 2);
        long[] open = {2, 1, 129, 1, 1};
        for (int what = 0; what < 5; what++) {
            CHECKS.due("thought " + what, lift.thought(what), open[what]);
        }
        OldLift either = Texts.liftWith(2, "up=call 1;door=call 0;");
        CHECKS.due("two floors, two doors", either.stuck(0), 4);
        CHECKS.due("floors", either.thought(3), 3);
        CHECKS.due("either", either.thought(4), 2);
        for (int what : new int[] {LOW, -2, -1, 5, 6, HIGH}) {
            CHECKS.due("another what", either.thought(what), NONE);
        }
    }

    private static void allThought() {
        CHECKS.by("how many STATES are THOUGHT");
        OldLift lift = Texts.liftWith(6, EVERYTHING);
        CHECKS.due("all of them", lift.stuck(0), 3072);
        long[] due = {3072, 0, 255, 63, 2};
        for (int what = 0; what < 5; what++) {
            CHECKS.due("thought " + what, lift.thought(what), due[what]);
        }
        CHECKS.due("no door is open at once", lift.tried(5, 0), 1536);
        CHECKS.due("shut", lift.thought(4), 0);
        CHECKS.due("all open", lift.tried(4, 0), 1536);
        CHECKS.due("open", lift.thought(4), 1);
    }

    private static void noStateThought() {
        CHECKS.by("NONE: another what, no STATE (but 0: 0 then), none was STUCK.");
        OldLift lift = Texts.liftWith(4, "lamp 0=1;");
        for (int what = -1; what < 6; what++) {
            CHECKS.due("none was stuck", lift.thought(what), NONE);
        }
        CHECKS.due("none", lift.stuck(0), 0);
        for (int what = -1; what < 6; what++) {
            CHECKS.due("no state", lift.thought(what), what == 0 ? 0 : NONE);
        }
        CHECKS.due("one", lift.stuck(1), 1);
        long[] one = {NONE, 1, 0, 0, 1, 0, NONE};
        for (int what = -1; what < 6; what++) {
            CHECKS.due("one state", lift.thought(what), one[what + 1]);
        }
    }

    private static void testsAre(OldLift lift, int number, int first) {
        CHECKS.due("how many", lift.tests(0), number);
        CHECKS.due("first", lift.tests(1), first);
    }

    private static void testsByNumber() {
        CHECKS.by("TESTS: the fewest TICKS (0 to 3)");
        for (int floors = 2; floors <= 6; floors++) {
            OldLift lift = Texts.liftWith(floors, "up=any;");
            lift.stuck(0);
            testsAre(lift, floors <= 4 ? floors - 1 : NONE, floors <= 4 ? 1 : NONE);
            // Each tick brings two of them together.
            for (int left = floors - 2; left >= 0; left--) {
                lift.tried(0, 0);
                testsAre(lift, left <= 3 ? left : NONE, left == 0 || left > 3 ? NONE : 1);
            }
        }
        CHECKS.by("1: FIRST, 0 none, 1 + FLOOR (NONE: of 0, of more than 3)");
        OldLift one = Texts.liftWith(4, "relay a=any;relay h=a;door=h;");
        CHECKS.yes("many states", one.stuck(0) > 3);
        testsAre(one, 0, NONE);
        OldLift bare = new OldLift();
        bare.stuck(0);
        testsAre(bare, 0, NONE);
    }

    private static void firstInOrder() {
        CHECKS.by("FIRST: the BUTTON (none first, then FLOOR 0, ..) to begin with.");
        for (int least = NONE; least < 6; least++) {
            StringBuilder up = new StringBuilder(least == NONE ? "up=1" : "up=0");
            for (int n = Math.max(least, 0); n < 6; n++) {
                up.append("+call ").append(n);
            }
            // Floors 4 and 5 alone are dark.
            OldLift lift = Texts.liftWith(6, up + ";lamp 0=at 0+at 1+at 2+at 3;");
            lift.stuck(0);
            testsAre(lift, 1, 1 + least);
        }
        // Fewer ticks are ahead of an earlier button: none brings 1, 2, 3 together in two, 3 tells them at once.
        OldLift fewer = Texts.liftWith(4, "up=1-any;relay a=call 3*at 1;relay b=call 3*at 2;lamp 0=a;lamp 1=b;lamp 2=at 0;");
        CHECKS.due("floors 1, 2, 3", fewer.stuck(0), 3);
        testsAre(fewer, 1, 4);
        OldLift two = Texts.liftWith(4, "up=1-any;relay a=call 3*at 1;lamp 0=a;lamp 2=at 0;");
        CHECKS.due("floors 1, 2, 3", two.stuck(0), 3);
        testsAre(two, 2, 0);
    }

    private static void moreThanThree() {
        CHECKS.by("what 0: how many (NONE: more than 3)");
        OldLift five = Texts.liftWith(5, "up=any;");
        five.stuck(0);
        testsAre(five, NONE, NONE);
        five.tried(NONE, 0);
        testsAre(five, NONE, NONE);
        five.tried(4, 0);
        testsAre(five, 3, 1);
        // No number of ticks does: the floors never come together.
        OldLift never = Texts.liftWith(2, "up=at 0;down=at 1;");
        never.stuck(0);
        testsAre(never, NONE, NONE);
        OldLift all = Texts.liftWith(6, EVERYTHING);
        all.stuck(0);
        testsAre(all, NONE, NONE);
    }

    private static void chosenByLamps() {
        CHECKS.by("with BUTTONS chosen by what LAMPS showed");
        // 2 shows by lamp 0 whether it is at 0 or 1: then 1 brings it down, else 0 brings it up. No two buttons do for all.
        OldLift lift = Texts.liftWith(4, "relay a=call 2*(at 0+at 1);up=call 0*at 2+call 3;down=call 1*at 1;lamp 0=a;");
        CHECKS.due("all floors", lift.stuck(0), 4);
        testsAre(lift, 2, 3);
        CHECKS.due("it shows", lift.tried(2, 1), 2);
        testsAre(lift, 1, 2);
        lift.stuck(0);
        CHECKS.due("it does not", lift.tried(2, 0), 2);
        testsAre(lift, 1, 1);
    }

    private static void whateverTheyShow() {
        CHECKS.by("behind which, whatever they show, all that are THOUGHT are at one FLOOR.");
        // Button 0 tells floor 0 from the others, button 1 all of them.
        OldLift lift = Texts.liftWith(3, "up=call 2;relay a=call 0*at 0+call 1*at 1;relay b=call 1*at 2;lamp 0=a;lamp 1=b;");
        CHECKS.due("dark", lift.stuck(0), 3);
        testsAre(lift, 1, 2);
        // Without button 1's second lamp a second tick is needed for what stays dark.
        OldLift two = Texts.liftWith(3, "up=call 2;relay a=call 0*at 0+call 1*at 1;lamp 0=a;");
        CHECKS.due("dark", two.stuck(0), 3);
        testsAre(two, 2, 1);
    }

    /** Button 0 shows by lamp 0 whether it is at 0 or 1; 3 moves it; no floors come together but by what is told more. */
    private static OldLift twoGroups(String moreUp, String moreDown) {
        OldLift lift = Texts.liftWith(4, "relay a=call 0*(at 0+at 1);lamp 0=a;up=call 3*(1-at 3)" + moreUp + ";down=call 3*at 3"
            + moreDown + ";");
        CHECKS.due("all floors", lift.stuck(0), 4);
        return lift;
    }

    private static void eachGroup() {
        CHECKS.by("whatever they show, all that are THOUGHT are at one FLOOR.");
        testsAre(twoGroups("+call 2*at 2", "+call 1*at 1"), 2, 1);
        // 0 and 1 need two ticks more: 3 brings them to 1 and 2, then 0 shows which.
        testsAre(twoGroups("+call 2*at 2", ""), 3, 1);
        // 2 and 3 never come together.
        testsAre(twoGroups("", "+call 1*at 1"), NONE, NONE);
        testsAre(twoGroups("", ""), NONE, NONE);
    }

    private static void askedAnew() {
        CHECKS.by("THOUGHT are STATES: at first those REACHED with just these LAMPS on");
        OldLift lift = Texts.liftWith(4, "up=any;lamp 0=at 3;lamp 1=at 2+at 3;");
        lift.stuck(0);
        testsAre(lift, 1, 1);
        lift.stuck(3);
        testsAre(lift, 0, NONE);
        lift.stuck(0);
        testsAre(lift, 1, 1);
        lift.stuck(2);
        testsAre(lift, 0, NONE);
        lift.stuck(1);
        testsAre(lift, NONE, NONE);
    }

    private static void noTests() {
        CHECKS.by("NONE: no STATE is THOUGHT, another what.");
        OldLift lift = Texts.liftWith(4, "lamp 0=1;");
        testsAre(lift, NONE, NONE);
        lift.stuck(0);
        testsAre(lift, NONE, NONE);
        lift.stuck(1);
        testsAre(lift, 0, NONE);
        for (int what : new int[] {LOW, -2, -1, 2, 3, HIGH}) {
            CHECKS.due("another what", lift.tests(what), NONE);
        }
        lift.tried(0, 0);
        testsAre(lift, NONE, NONE);
        lift.stuck(1);
        Texts.readCircuit(lift, "lamp 0=1;");
        testsAre(lift, NONE, NONE);
    }
}
