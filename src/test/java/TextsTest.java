import java.util.NoSuchElementException;

/** Promises 1 to 5 and 33: a new object, floors, feed, circuit, rule, count. */
public final class TextsTest {
    private static final Checks CHECKS = new Checks("TextsTest");
    private static final int NONE = OldLift.NONE;

    private TextsTest() { }

    public static void main(String[] args) {
        newObject();
        floors();
        floorsMakeAllNew();
        feed();
        circuitFaults();
        circuitsWithoutFault();
        faultLeavesAll();
        values();
        ruleFaults();
        ruleStays();
        ruleFacts();
        count();
        CHECKS.end();
    }

    private static void newObject() {
        CHECKS.due("NONE", OldLift.NONE, -1);
        OldLift lift = new OldLift();
        long[] counts = {4, 0, 1, 1, 0, 0, 0, 0};
        for (int i = 0; i < counts.length; i++) {
            CHECKS.due("new, count " + i, lift.count(i), counts[i]);
        }
        for (int i = 0; i < 6; i++) {
            CHECKS.due("new, look " + i, lift.look(i), 0);
        }
        CHECKS.due("new, never", lift.never(0, 0), NONE);
        CHECKS.due("new, forgets", lift.forgets(0, 60, 0), 1);
        CHECKS.due("new, thought", lift.thought(0), NONE);
        CHECKS.due("new, tests", lift.tests(0), NONE);
        CHECKS.due("new, press", lift.press(3), 0);
        CHECKS.due("new, ticks", lift.look(5), 1);
        CHECKS.due("new, rode", lift.rode(0, 0), NONE);
        CHECKS.due("new, waits", lift.waits(3), NONE);
        CHECKS.due("new, best", lift.best(0, 0), NONE);
        CHECKS.due("new, rope", lift.rope(0, 2), 0);
        CHECKS.due("new, first", lift.first(1), 7);
        CHECKS.due("new, lasts", lift.lasts(0, 0), NONE);
    }

    private static void floors() {
        OldLift lift = new OldLift();
        for (int n : new int[] {1, 0, -1, 7, 8, Integer.MIN_VALUE, Integer.MAX_VALUE}) {
            lift.trip(0, 1, 5);
            CHECKS.no("floors " + n, lift.floors(n));
            CHECKS.due("floors stay", lift.count(0), 4);
        }
        CHECKS.due("trips stay", lift.count(6), 7);
        for (int n = 2; n <= 6; n++) {
            CHECKS.yes("floors " + n, lift.floors(n));
            CHECKS.due("count 0", lift.count(0), n);
            CHECKS.due("the top button", lift.press(n - 1), 0);
            CHECKS.due("no such button", lift.press(n), NONE);
        }
    }

    private static void floorsMakeAllNew() {
        OldLift lift = new OldLift();
        Texts.feed(lift, "relay a=any;up=a;lamp 0=a;never a;");
        CHECKS.due("circuit", lift.circuit(), 0);
        Texts.feed(lift, "0-car");
        CHECKS.due("rule", lift.rule(), 0);
        lift.press(2);
        lift.stuck(0);
        lift.cars(2, 1, 9, 3);
        lift.person(0, 0, 1);
        lift.hold(0, 0, 1);
        lift.fire(100);
        lift.run();
        lift.trip(0, 1, 1000);
        lift.gauge(0, 50);
        lift.gauge(1, 5);
        lift.gauge(2, 7);
        Texts.feed(lift, "up");
        CHECKS.yes("the same floors again", lift.floors(4));
        long[] counts = {4, 0, 1, 1, 0, 0, 0, 2};
        for (int i = 0; i < counts.length; i++) {
            CHECKS.due("floors, count " + i, lift.count(i), counts[i]);
        }
        for (int i = 0; i < 6; i++) {
            CHECKS.due("floors, look " + i, lift.look(i), 0);
        }
        CHECKS.due("nothing is thought", lift.thought(0), NONE);
        CHECKS.due("no stuck", lift.tried(0, 0), NONE);
        CHECKS.due("no run", lift.rode(0, 0), NONE);
        CHECKS.due("nothing moved", lift.moved(0, 0), 0);
        CHECKS.due("nothing stopped", lift.stopped(0), 0);
        lift.trip(0, 1, 100);
        CHECKS.due("slip 0", lift.rope(0, 0), 100);
        CHECKS.due("life 1000, one day", lift.lasts(0, 0), 9);
        lift.person(0, 0, 3);
        CHECKS.due("doors 1, no fire, no hold, park 0", lift.run(), 5);
        CHECKS.due("rode car 0", lift.rode(0, 0), 0);
        lift.cars(2, 4, 1, 0);
        lift.run();
        CHECKS.due("no rule", lift.rode(0, 0), 0);
        CHECKS.due("the tape stays", lift.circuit(), 1 + 16 * 2);
    }

    private static void feed() {
        OldLift lift = new OldLift();
        CHECKS.due("feed none", lift.feed(0, 0, 0), 0);
        CHECKS.due("signs out of bounds", lift.feed(0x0A201F7E7F80FF09L, 0x0B0D000102030405L, -1L), 3);
        CHECKS.due("count 7", lift.count(7), 3);
        CHECKS.due("feed behind", lift.feed(0, 0x6100000000000062L, 0x63L), 6);
        CHECKS.due("~ is none", lift.circuit(), 1 + 16 * 2);
        CHECKS.due("it is taken", lift.count(7), 0);
        // The order of the bytes: only so the text is a circuit.
        lift.feed(Texts.eight("up=1;", 0), Texts.eight("door=1;", 0), Texts.eight("never 1;", 0));
        CHECKS.due("count", lift.count(7), 20);
        CHECKS.due("bytes in order", lift.circuit(), 0);
        long stars = Texts.eight("********", 0);
        for (int i = 1; i <= 41; i++) {
            CHECKS.due("feed " + i, lift.feed(stars, stars, stars), 24 * i);
        }
        CHECKS.due("to 1,000", lift.feed(stars, stars, stars), 1000);
        CHECKS.due("beyond", lift.feed(stars, stars, stars), 1000);
        CHECKS.due("circuit", lift.circuit(), 1);
        // A thousand tokens, all of which count.
        StringBuilder text = new StringBuilder("up=1");
        while (text.length() < 998) {
            text.append("-1");
        }
        Texts.feed(lift, text + ";;up");
        CHECKS.due("filled", lift.count(7), 1000);
        CHECKS.due("the thousandth sign", lift.circuit(), 1 + 16 * 999);
        Texts.feed(lift, text + "-1;");
        CHECKS.due("filled without an end", lift.circuit(), 1 + 16 * 1000);
        Texts.feed(lift, text + " ;");
        CHECKS.due("filled", lift.circuit(), 0);
    }

    private static long faultOf(OldLift lift, String text) {
        Texts.feed(lift, text);
        return lift.circuit();
    }

    private static void circuitFaults() {
        OldLift lift = new OldLift();
        String sevenNevers = "never 1;".repeat(7);
        Object[][] faults = {
            {"relay a=1", 1, 9}, {"relay a=1 \n", 1, 11}, {"relay i=1;", 1, 6}, {"relay aa=1;", 1, 6},
            {"relay 1=1;", 1, 6}, {"relay a 1;", 1, 8}, {"relaya=1;", 1, 0}, {"relay a=1;relay a=0;", 3, 16},
            {"relay h=1;relay a=1;relay h", 3, 26}, {"relay", 1, 5}, {"relay a", 1, 7}, {"relay a=", 1, 8},
            {"up=1;down=1;door=1;up=0;", 3, 19}, {"up=1;down=1;down", 3, 12}, {"door=1;door$", 3, 7},
            {"lamp 8=1;", 4, 5}, {"lamp 9999=1;", 4, 5}, {"lamp 12345=1;", 1, 5}, {"lamp a=1;", 1, 5},
            {"lamp 7=1;lamp 7=1;", 3, 14}, {"lamp 07=1;lamp 7=1;", 3, 15}, {"lamp=1;", 1, 4},
            {sevenNevers, 5, 48}, {"never=1;", 1, 5}, {"never ;", 1, 6}, {"never", 1, 5},
            {"up=call 4;", 4, 8}, {"up=at 4;", 4, 6}, {"up=call;", 1, 7}, {"up=at a;", 1, 6}, {"up=at 12345;", 1, 6},
            {"up=not not not not not 1;", 5, 23}, {"up=not not not not not not 1;", 5, 23},
            {"up=(((((1)))));", 5, 8}, {"up=(((((();", 5, 8}, {"up=((((();", 1, 8}, {"up=(((((", 1, 8},
            {"up=not(not(not a));", 5, 15}, {"up=not(not(not(a)));", 5, 14}, {"up=not(not(a));up=1;", 3, 15},
            {"up=not(not(call 4));", 4, 16}, {"up=not(not(call 1 and(a)));", 5, 22},
            {"up=not not not not not at 9;", 5, 23}, {"up=not not not not not far;", 1, 23},
            {"up=not not not not not +;", 1, 23},
            {"up=a<b<c;", 1, 6}, {"up=a=b=c;", 1, 6}, {"up=a<b=c;", 1, 6}, {"up=a+b<c and d<e<f;", 1, 16},
            {"up=1 2;", 1, 5}, {"up=-1;", 1, 3}, {"up=1+;", 1, 5}, {"up=();", 1, 4}, {"up=(1;", 1, 5},
            {"up=1);", 1, 4}, {"up=far;", 1, 3}, {"up=A;", 1, 3}, {"up=12345;", 1, 3}, {"up=abcdefghi;", 1, 3},
            {"up=callx;", 1, 3}, {"up=i;", 1, 3}, {"up=a and or b;", 1, 9}, {"up=a not b;", 1, 5},
            {"up=not;", 1, 6}, {"up=a*;", 1, 5}, {"up=a**b;", 1, 5}, {"up=a<;", 1, 5}, {"up=a;b", 1, 5},
            {"up=1,0;", 1, 4}, {"up=az;", 1, 3}, {"up=za;", 1, 3}, {";", 1, 0}, {"up=1;;", 1, 5}, {"and", 1, 0}, {"\n\n x", 1, 3}, {"upp=1;", 1, 0},
            {"up=1;never 1;lamp 0=$;relay a=1;relay a=1;", 1, 20},
        };
        for (Object[] fault : faults) {
            long want = (Integer) fault[1] + 16L * (Integer) fault[2];
            CHECKS.due("circuit " + fault[0], faultOf(lift, (String) fault[0]), want);
            CHECKS.due("the tape is taken", lift.count(7), 0);
        }
        lift.floors(6);
        CHECKS.due("call 5 of 6", faultOf(lift, "up=call 5;"), 0);
        CHECKS.due("call 6 of 6", faultOf(lift, "up=call 6;"), 4 + 16 * 8);
        lift.floors(2);
        CHECKS.due("at 1 of 2", faultOf(lift, "up=at 1;"), 0);
        CHECKS.due("at 2 of 2", faultOf(lift, "up=at 2;"), 4 + 16 * 6);
    }

    private static void circuitsWithoutFault() {
        OldLift lift = new OldLift();
        String[] fine = {"", " \n ", "relay a=1;", "up=not not not not 1;", "up=((((1))));", "up=call1;",
            "up=1and 1or1;", "up=(a<b)<c;", "up=a<b and b<c or c=d;", "up=9999;", "lamp 0007=0000;",
            "never 1;".repeat(6), "\nrelay\nh\n=\nnot\n(\na\n)\n;\n", "lamp 0=open;lamp 1=any;lamp 7=at 3*call 3;",
            "up=not(a)*not(b)+not(c)-not(d);", "relay a=b;relay b=a;relay c=c;relay d=1;relay e=1;relay f=1;"};
        for (String text : fine) {
            CHECKS.due("circuit " + text, faultOf(lift, text), 0);
        }
    }

    private static void faultLeavesAll() {
        OldLift lift = new OldLift();
        faultOf(lift, "relay a=any;up=a;lamp 2=a;never at 2;");
        lift.press(0);
        lift.stuck(4);
        CHECKS.due("a fault", faultOf(lift, "down=1;up=;"), 1 + 16 * 10);
        CHECKS.due("never lines stay", lift.count(1), 1);
        CHECKS.due("ticks stay", lift.look(5), 1);
        CHECKS.due("floor stays", lift.look(1), 1);
        CHECKS.due("relays stay", lift.look(0), 1);
        CHECKS.due("thought stays", lift.thought(0), 3);
        CHECKS.due("lines stay", lift.press(3), 4);
        CHECKS.due("floor", lift.look(1), 2);
        CHECKS.due("no fault", faultOf(lift, "lamp 0=1;"), 0);
        CHECKS.due("start: floor", lift.look(1), 0);
        CHECKS.due("start: relays", lift.look(0), 0);
        CHECKS.due("start: ticks", lift.look(5), 0);
        CHECKS.due("lines told no more are gone", lift.press(3), 1);
        CHECKS.due("relays", lift.look(0), 0);
        CHECKS.due("nothing is thought", lift.thought(0), NONE);
        CHECKS.due("no never lines", lift.count(1), 0);
    }

    private static void values() {
        OldLift lift = new OldLift();
        String[] so = {"2+3*4=14", "2*3+4=10", "10-2-3=5", "2-3<0", "0 and 0 or 1", "1 or 0 = 1", "not 2=0",
            "not 0+1=2", "(2 and 4)=1", "(3 or 0)=1", "(1<2)+(2=2)=2", "not(1 or 1 and 0)", "9999*9999*9999<0",
            "2*(3+4)=14", "not not 7=1", "1 and 2", "3-1", "0-1", "5=5 and 4<5 and not (5<5)", "2 or 0 and 1",
            "at 0", "not at 1", "not open", "not any", "not call 0", "not a", "at 0+at 0=2"};
        for (String test : so) {
            CHECKS.due("lamp of " + test, faultOf(lift, "lamp 0=" + test + ";"), 0);
            CHECKS.due("so is " + test, lift.look(3), 1);
        }
        String[] notSo = {"1 or 1 and 0", "2 and 4=1", "2=3", "3<3", "4<3", "not 5", "0*7", "7-7", "0", "not(2-1)",
            "1 and 0", "0 or 0", "at 3", "h"};
        for (String test : notSo) {
            CHECKS.due("lamp of " + test, faultOf(lift, "lamp 7=" + test + ";"), 0);
            CHECKS.due("not so is " + test, lift.look(3), 0);
        }
    }

    private static long ruleFault(OldLift lift, String text) {
        Texts.feed(lift, text);
        return lift.rule();
    }

    private static void ruleFaults() {
        OldLift lift = new OldLift();
        Object[][] faults = {
            {"far +", 1, 5}, {"far;", 1, 3}, {"far far", 1, 4}, {"a", 1, 0}, {"call 1", 1, 0}, {"open", 1, 0},
            {" ~ ", 1, 1}, {" ;", 1, 1}, {" not\n", 1, 5}, {"(far", 1, 4}, {"far)", 1, 3}, {"((((far))))", 0, 0}, {"(((((far)))))", 5, 5},
            {"not not not not not far", 5, 20}, {"far<load<to", 1, 8}, {"up=far;", 1, 0}, {"10000", 1, 0},
            {"far+load*stops-toward and idle or floor<from+to=", 1, 47}, {"car = time", 0, 0}, {"far\n", 0, 0}};
        for (Object[] fault : faults) {
            long want = (Integer) fault[1] + 16L * (Integer) fault[2];
            CHECKS.due("rule " + fault[0], ruleFault(lift, (String) fault[0]), want);
            CHECKS.due("the tape is taken", lift.count(7), 0);
        }
    }

    private static void ruleStays() {
        OldLift lift = new OldLift();
        lift.cars(2, 4, 1, 0);
        lift.person(0, 0, 1);
        lift.run();
        CHECKS.due("without a rule", lift.rode(0, 0), 0);
        CHECKS.due("rule", ruleFault(lift, "0-car"), 0);
        lift.run();
        CHECKS.due("by the rule", lift.rode(0, 0), 1);
        CHECKS.due("a fault", ruleFault(lift, "car+"), 1 + 16 * 4);
        lift.run();
        CHECKS.due("the one ahead stays", lift.rode(0, 0), 1);
        CHECKS.due("an empty one", lift.rule(), 0);
        lift.run();
        CHECKS.due("no rule any more", lift.rode(0, 0), 0);
        blankRules(lift);
        CHECKS.due("a circuit leaves the rule", ruleFault(lift, "car=0"), 0);
        faultOf(lift, "up=1;");
        lift.run();
        CHECKS.due("by the rule still", lift.rode(0, 0), 1);
    }

    /** Blanks alone, as many as one likes, are an empty rule, with a rule ahead and without one. */
    private static void blankRules(OldLift lift) {
        for (String blanks : new String[] {"", " ", "\n", " \n", "\n\n  \n", " ".repeat(1000), "\n".repeat(1000)}) {
            CHECKS.due("blanks without a rule", ruleFault(lift, blanks), 0);
            CHECKS.due("rule", ruleFault(lift, "0-car"), 0);
            CHECKS.due("by the rule", lift.rode(0, 0), 1);
            CHECKS.due("blanks behind a rule", ruleFault(lift, blanks), 0);
            CHECKS.due("the tape is taken", lift.count(7), 0);
            CHECKS.due("no rule any more", lift.rode(0, 0), 0);
        }
    }

    /** Person 0 keeps car 0 busy (0 to 3, in at 0); the rule then picks a car for person 1. */
    private static long carBy(String rule, int time, int from, int to) {
        OldLift lift = new OldLift();
        lift.cars(2, 1, 0, 0);
        CHECKS.due("rule " + rule, ruleFault(lift, rule), 0);
        lift.person(0, 0, 3);
        lift.person(time, from, to);
        lift.run();
        return lift.rode(1, 0);
    }

    private static void ruleFacts() {
        // At time 2 car 0 is at floor 1, heading up, full, its one goal is 3; car 1 idles at floor 0.
        CHECKS.due("load", carBy("load", 2, 1, 0), 1);
        CHECKS.due("far from 1", carBy("far", 2, 1, 0), 0);
        CHECKS.due("far from 0", carBy("far", 2, 0, 1), 1);
        CHECKS.due("far from 2", carBy("far", 2, 2, 1), 0);
        CHECKS.due("stops", carBy("stops", 2, 1, 0), 1);
        CHECKS.due("few stops", carBy("0-stops", 2, 1, 0), 0);
        CHECKS.due("idle", carBy("idle", 2, 1, 0), 0);
        CHECKS.due("not idle", carBy("not idle", 2, 1, 0), 1);
        CHECKS.due("toward from behind", carBy("toward", 2, 0, 1), 0);
        CHECKS.due("not toward from behind", carBy("not toward", 2, 0, 1), 1);
        CHECKS.due("toward from where it is", carBy("not toward", 2, 1, 0), 0);
        CHECKS.due("toward from ahead", carBy("not toward", 2, 2, 0), 0);
        CHECKS.due("floor", carBy("floor", 2, 2, 0), 1);
        CHECKS.due("floor turned", carBy("0-floor", 2, 2, 0), 0);
        CHECKS.due("car", carBy("car*(from=2)*(0-1)", 2, 2, 0), 1);
        CHECKS.due("from", carBy("car*(from=3)*(0-1)", 2, 2, 0), 0);
        CHECKS.due("to", carBy("0-car*(to=1)", 2, 2, 1), 1);
        CHECKS.due("not to", carBy("0-car*(to=0)", 2, 2, 1), 0);
        CHECKS.due("time", carBy("0-car*(time=2)", 2, 2, 1), 1);
        CHECKS.due("another time", carBy("0-car*(time=3)", 2, 2, 1), 0);
        CHECKS.due("equal ones", carBy("time", 2, 2, 1), 0);
        CHECKS.due("given at the same time counts", carBy("stops", 0, 2, 1), 1);
    }

    private static void count() {
        OldLift lift = new OldLift();
        lift.cars(2, 1, 1, 1);
        lift.person(0, 1, 2);
        lift.person(0, 1, 2);
        lift.hold(0, 1, 1);
        lift.hold(0, 1, 1);
        lift.hold(0, 1, 1);
        for (int i = 0; i < 4; i++) {
            lift.trip(0, 1, 1);
        }
        faultOf(lift, "relay a=any;never a;never 0;");
        lift.feed(0x2020202020L, 0, 0);
        long[] counts = {4, 2, 2, 2, 2, 3, 4, 5};
        for (int i = 0; i < counts.length; i++) {
            CHECKS.due("count " + i, lift.count(i), counts[i]);
        }
        for (int what : new int[] {-1, 8, 9, Integer.MIN_VALUE, Integer.MAX_VALUE}) {
            CHECKS.due("count " + what, lift.count(what), NONE);
        }
        try {
            lift.look(-1);
            CHECKS.no("look throws", true);
        } catch (NoSuchElementException e) {
            CHECKS.yes("look throws", true);
        }
    }
}
