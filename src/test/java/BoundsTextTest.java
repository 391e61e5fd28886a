/** The bounds of the two languages (promises 4 and 5): a test for each sentence that names one. */
public final class BoundsTextTest {
    private static final Checks CHECKS = new Checks("BoundsTextTest");
    private static final int NONE = OldLift.NONE;
    private static final String LETTERS = "abcdefghijklmnopqrstuvwxyz";
    private static final String[] CIRCUIT_FACTS = {"a", "b", "c", "d", "e", "f", "g", "h", "call 1", "at 1", "open", "any"};
    private static final String[] RULE_FACTS =
        {"far", "load", "stops", "toward", "idle", "floor", "from", "to", "car", "time"};

    private BoundsTextTest() { }

    public static void main(String[] args) {
        blanks();
        words();
        numbers();
        signs();
        anyNumberOfLines();
        lettersOfRelays();
        numbersOfLamps();
        onceEach();
        sixNevers();
        oneRule();
        chains();
        depth();
        depthOfEach();
        floorsOfFacts();
        factsOfEach();
        oneOrZero();
        wraps();
        theEnd();
        theFirst();
        theLeast();
        fromThenOn();
        startBehindCircuit();
        emptyRule();
        CHECKS.end();
    }

    private static void circuit(String text, int kind, int place) {
        CHECKS.due("circuit " + text, Texts.readCircuit(new OldLift(), text), kind + 16L * place);
    }

    private static void fine(String text) {
        circuit(text, 0, 0);
    }

    private static void rule(String text, int kind, int place) {
        CHECKS.due("rule " + text, Texts.readRule(new OldLift(), text), kind + 16L * place);
    }

    /** The same E in both languages; its place is that of the rule. */
    private static void both(String e, int kind, int place) {
        rule(e, kind, place);
        circuit("up=" + e + ";", kind, kind == 0 ? 0 : 3 + place);
        circuit("never " + e + ";", kind, kind == 0 ? 0 : 6 + place);
    }

    private static void so(String e, boolean due) {
        OldLift lift = Texts.liftWith(4, "lamp 0=" + e + ";");
        CHECKS.due("so is " + e, lift.look(3), due ? 1 : 0);
    }

    private static void blanks() {
        CHECKS.by("TOKENS, each as long as can be, blanks (10, 32) between where one likes");
        fine("relay a=not(b)+call 1;lamp 0=1;");
        fine("relay a=not(b)+call1;lamp0=1;");
        fine("\n relay\na =\n\nnot ( b ) + call\n1 ; \nlamp 0\n=\n1 ;\n ");
        circuit("re lay a=1;", 1, 0);
        circuit("relaya=1;", 1, 0);
        circuit("upp=1;", 1, 0);
        circuit("lamp 1 0=1;", 1, 7);
        circuit("up=notb;", 1, 3);
        circuit("up=no t b;", 1, 3);
        circuit("up=1 2;", 1, 5);
        circuit("up=aandb;", 1, 3);
        fine("up=1and b;");
        rule("  far  ", 0, 0);
        rule("f ar", 1, 0);
        rule("farfar", 1, 0);
        rule("far\nfar", 1, 4);
    }

    private static void words() {
        CHECKS.by("WORDS (letters a .. z, 8 at most)");
        circuit("up=abcdefg;", 1, 3);
        circuit("up=abcdefgh;", 1, 3);
        circuit("up=abcdefghi;", 1, 3);
        circuit("up=1 and " + LETTERS + ";", 1, 9);
        circuit("up=1 andandand 1;", 1, 5);
        // The signs on both sides of a .. z, and the letters that are none.
        for (String none : new String[] {"`", "{", "A", "Z", "_", "@", "["}) {
            circuit("up=" + none + ";", 1, 3);
            circuit("up=a" + none + ";", 1, 4);
            circuit("up=" + none + "a;", 1, 3);
        }
        circuit("Up=1;", 1, 0);
        circuit("uP=1;", 1, 0);
        rule("faR", 1, 0);
        rule("far" + LETTERS, 1, 0);
    }

    private static void numbers() {
        CHECKS.by("NUMBERS (1 to 4 digits; a letter may stand right behind)");
        for (String number : new String[] {"0", "9", "00", "99", "000", "999", "0000", "9999"}) {
            both(number, 0, 0);
            both(number + "and 1", 0, 0);
            both(number + "or(" + number + ")", 0, 0);
        }
        for (String number : new String[] {"00000", "00001", "10000", "99999", "100000", "99999999999999999999"}) {
            both(number, 1, 0);
            both(number + "and 1", 1, 0);
            both("1+" + number, 1, 2);
        }
        both("1a", 1, 1);
        both("1234and1", 0, 0);
        both("12345and1", 1, 0);
        so("9999-9998=1", true);
        so("0010=10", true);
        so("1000-999=1", true);
    }

    private static void signs() {
        CHECKS.by("the signs ( ) < = + - * ; All else (a longer WORD or NUMBER, too, at its first sign) is none.");
        for (char sign = 33; sign < 127; sign++) {
            String text = "up=1" + sign + "1;";
            if ("+-*<=0123456789".indexOf(sign) >= 0) {
                fine(text);
                rule("1" + sign + "1", 0, 0);
            } else if (sign == ';') {
                circuit(text, 1, 5);
                rule("1;1", 1, 1);
            } else {
                circuit(text, 1, 4);
                rule("1" + sign + "1", 1, 1);
            }
        }
        both("(1)", 0, 0);
        circuit("up=1<=1;", 1, 5);
        circuit("up==1;", 1, 3);
        circuit("up=1;;", 1, 5);
    }

    private static void anyNumberOfLines() {
        CHECKS.by("CIRCUIT: any number of");
        fine("");
        fine(" ");
        fine("\n");
        fine("up=1;");
        StringBuilder all = new StringBuilder("up=1;down=1;door=1;");
        for (int i = 0; i < 8; i++) {
            all.append("relay " + LETTERS.charAt(i) + "=1;lamp " + i + "=1;");
        }
        all.append("never 1;".repeat(6));
        OldLift lift = Texts.liftWith(4, all.toString());
        CHECKS.due("all lamps", lift.press(NONE), 255);
        CHECKS.due("all relays", lift.look(0), 255);
        CHECKS.due("the door", lift.look(2), 1);
        CHECKS.due("all never lines", lift.count(1), 6);
        OldLift empty = Texts.liftWith(4, "");
        CHECKS.due("no lamp", empty.press(0), 0);
        CHECKS.due("no never line", empty.count(1), 0);
        CHECKS.due("one state", empty.count(2), 1);
    }

    private static void lettersOfRelays() {
        CHECKS.by("X: a letter a to h.");
        for (int i = 0; i < 26; i++) {
            char x = LETTERS.charAt(i);
            circuit("relay " + x + "=1;", i < 8 ? 0 : 1, i < 8 ? 0 : 6);
            circuit("up=" + x + ";", i < 8 ? 0 : 1, i < 8 ? 0 : 3);
            circuit("relay " + x + x + "=1;", 1, 6);
            if (i < 8) {
                OldLift lift = Texts.liftWith(4, "relay " + x + "=1;lamp 0=" + x + ";");
                CHECKS.due("its lamp", lift.press(NONE), 1);
                CHECKS.due("its bit", lift.look(0), 1 << i);
            }
        }
        circuit("relay 1=1;", 1, 6);
        circuit("relay =1;", 1, 6);
        circuit("relay up=1;", 1, 6);
    }

    private static void numbersOfLamps() {
        CHECKS.by("N 0 to 7.");
        for (int n = 0; n < 8; n++) {
            OldLift lift = Texts.liftWith(4, "lamp " + n + "=1;");
            CHECKS.due("its bit", lift.look(3), 1 << n);
        }
        CHECKS.by("4 a NUMBER that is not as told");
        for (String n : new String[] {"8", "9", "10", "08", "0008", "77", "9999"}) {
            circuit("lamp " + n + "=1;", 4, 5);
        }
        fine("lamp 0007=1;");
        circuit("lamp 00007=1;", 1, 5);
        circuit("lamp 10000=1;", 1, 5);
        circuit("lamp a=1;", 1, 5);
        circuit("lamp -1=1;", 1, 5);
        circuit("lamp =1;", 1, 5);
    }

    private static void onceEach() {
        CHECKS.by("relay once of each X, lamp once of each N, up, down, door once each");
        for (int i = 0; i < 8; i++) {
            char x = LETTERS.charAt(i);
            char other = LETTERS.charAt((i + 1) % 8);
            circuit("relay " + x + "=1;relay " + x + "=1;", 3, 16);
            circuit("relay " + x + "=0;relay " + other + "=1;relay " + x + "=1;", 3, 26);
            fine("relay " + x + "=1;relay " + other + "=1;lamp " + i + "=1;");
            circuit("lamp " + i + "=1;lamp " + i + "=1;", 3, 14);
            circuit("lamp " + i + "=0;lamp " + (i + 1) % 8 + "=1;lamp 0" + i + "=1;", 3, 23);
        }
        circuit("up=0;up=1;", 3, 5);
        circuit("down=0;down=1;", 3, 7);
        circuit("door=0;door=1;", 3, 7);
        circuit("up=1;down=1;door=1;up=1;", 3, 19);
        circuit("up=1;down=1;door=1;down=1;", 3, 19);
        circuit("up=1;down=1;door=1;door=1;", 3, 19);
        fine("door=1;down=1;up=1;");
        fine("relay a=1;lamp 0=1;up=1;");
        // A text of its own: what an earlier one told is not told already.
        OldLift lift = Texts.liftWith(4, "relay a=1;up=1;lamp 0=1;");
        CHECKS.due("again", Texts.readCircuit(lift, "relay a=1;up=1;lamp 0=1;"), 0);
        CHECKS.due("twice", Texts.readCircuit(lift, "relay b=1;relay b=1;"), 3 + 16 * 16);
        CHECKS.due("behind a fault", Texts.readCircuit(lift, "relay b=1;"), 0);
    }

    private static void sixNevers() {
        CHECKS.by("never 6 at most.");
        for (int n = 0; n <= 6; n++) {
            OldLift lift = Texts.liftWith(4, "never 1;".repeat(n));
            CHECKS.due("never lines", lift.count(1), n);
            CHECKS.due("the last one", lift.never(n - 1, 0), n == 0 ? NONE : 0);
            CHECKS.due("behind it", lift.never(n, 0), NONE);
        }
        CHECKS.by("5 one too many: the word never of a seventh");
        circuit("never 1;".repeat(7), 5, 48);
        circuit("never 1;".repeat(8), 5, 48);
        circuit("never 1;".repeat(6) + "never", 5, 48);
        circuit("never 1;".repeat(6) + "up=1;\nnever$", 5, 54);
        fine("never 1;".repeat(6) + "up=1;");
        OldLift lift = Texts.liftWith(4, "never 1;".repeat(6));
        CHECKS.due("six more", Texts.readCircuit(lift, "never 0;".repeat(6)), 0);
        CHECKS.due("six of them", lift.count(1), 6);
    }

    private static void oneRule() {
        CHECKS.by("1 it is none, or can't stand there (anything behind a RULE, too)");
        rule("far", 0, 0);
        for (String more : new String[] {";", ")", "(", "1", "far", "not", "$", "car", "relay", "12345"}) {
            rule("far " + more, 1, 4);
            rule("(far)" + more, 1, 5);
        }
        rule("far and", 1, 7);
        rule("up=1;", 1, 0);
        rule("never 1;", 1, 0);
    }

    private static void chains() {
        CHECKS.by("TEST: SUM, or SUM < SUM, or SUM = SUM");
        both("1", 0, 0);
        both("1<2", 0, 0);
        both("1=2", 0, 0);
        for (String two : new String[] {"1<2<3", "1<2=3", "1=2<3", "1=2=3"}) {
            both(two, 1, 3);
            both("(" + two + ")", 1, 4);
            both("1 and " + two, 1, 9);
        }
        both("1<2 and 2<3 or 3=4", 0, 0);
        both("(1<2)<3", 0, 0);
        both("1<(2<3)", 0, 0);
        both("1<2+3<4", 1, 5);
        CHECKS.by("E: TEST { and TEST or or TEST }, from the left");
        so("1 or 1 and 0", false);
        so("0 and 0 or 1", true);
        so("10-2-3=5", true);
        so("10-(2-3)=11", true);
        so("2+3*4=14", true);
        so("not 1+1=1", true);
        so("not 0*0=0", true);
        both("1 and", 1, 5);
        both("and 1", 1, 0);
        both("1 and and 1", 1, 6);
        both("+1", 1, 0);
        both("-1", 1, 0);
        both("1+", 1, 2);
        both("1+-1", 1, 2);
        both("1*", 1, 2);
        both("()", 1, 1);
        both("not", 1, 3);
    }

    /** So many of not and ( ) round an E, as bits: 1 is a ( ); the innermost is the highest. */
    private static String wrapped(String e, int bits, int n) {
        String text = e;
        for (int i = n - 1; i >= 0; i--) {
            text = (bits >> i & 1) == 1 ? "(" + text + ")" : "not " + text;
        }
        return text;
    }

    private static int ahead(int bits, int n) {
        return 4 * n - 3 * Integer.bitCount(bits & (1 << n) - 1);
    }

    private static void depth() {
        CHECKS.by("no PART lies within 5 of not and ( ).");
        for (int bits = 0; bits < 16; bits++) {
            both(wrapped("1", bits, 3), 0, 0);
            both(wrapped("1", bits, 4), 0, 0);
        }
        CHECKS.by("not, or a PART, within 5 others.");
        for (int bits = 0; bits < 64; bits++) {
            both(wrapped("1", bits, 5), 5, ahead(bits, 5));
            both(wrapped("1", bits, 6), 5, ahead(bits, 5));
            both(wrapped("1", bits, 7), 5, ahead(bits, 5));
        }
        both("(".repeat(900), 5, 5);
        both("not ".repeat(200), 5, 20);
    }

    /** Each part of an E may lie as deep, and none that is shut counts for the next. */
    private static void depthOfEach() {
        CHECKS.by("no PART lies within 5 of not and ( ).");
        both("((((1))))+((((1))))*((((1))))", 0, 0);
        both("not not not not 1 and not not not not 1<not not not not 1", 0, 0);
        both("((((1+2*3<4 and 5 or 6))))", 0, 0);
        both("((((1+(2)))))", 5, 7);
        both("((((1*not 2))))", 5, 10);
        both("((((1))+(((1)))))", 5, 11);
        both("((((1))+((1))))", 0, 0);
        both("not(not(not not 1))", 5, 12);
        both("not(not(not 1))", 5, 12);
        both("not(not 1)+not(not 1)", 0, 0);
        circuit("up=((((call 1))));", 0, 0);
        circuit("up=(((((call 1)))));", 5, 8);
        circuit("up=((((open))))+not not not not any;", 0, 0);
        circuit("up=not not not not not a;", 5, 23);
        rule("not not not not not far", 5, 20);
        so("not not not not 7", true);
        so("not(not(0))", false);
        so("((((2))))=2", true);
    }

    private static void floorsOfFacts() {
        CHECKS.by("call N, at N (N a FLOOR)");
        for (int floors = 2; floors <= 6; floors++) {
            OldLift lift = new OldLift();
            lift.floors(floors);
            for (int n = 0; n < 8; n++) {
                int kind = n < floors ? 0 : 4;
                CHECKS.due("call " + n + " of " + floors, Texts.readCircuit(lift, "up=call " + n + ";"), kind + 16 * kind * 2);
                CHECKS.due("at " + n + " of " + floors, Texts.readCircuit(lift, "never at " + n + ";"),
                    kind == 0 ? 0 : 4 + 16 * 9);
            }
        }
        circuit("up=call 9999;", 4, 8);
        circuit("up=call 10000;", 1, 8);
        circuit("up=call 0003;", 0, 0);
        circuit("up=call 0004;", 4, 8);
        circuit("up=call;", 1, 7);
        circuit("up=at (1);", 1, 6);
        circuit("up=at a;", 1, 6);
        circuit("up=at", 1, 5);
        circuit("up=call call 1;", 1, 8);
    }

    private static void factsOfEach() {
        CHECKS.by("Facts of a CIRCUIT: a to h, call N, at N (N a FLOOR), open, any; of a RULE: far, load, stops, toward, idle, floor, from, to, car, time.");
        for (String fact : CIRCUIT_FACTS) {
            fine("up=" + fact + ";");
            rule(fact, 1, 0);
            rule("1+" + fact, 1, 2);
        }
        for (String fact : RULE_FACTS) {
            rule(fact, 0, 0);
            circuit("up=" + fact + ";", 1, 3);
            circuit("never 1+" + fact + ";", 1, 8);
        }
        for (String word : new String[] {"relay", "up", "down", "door", "lamp", "never", "and", "or", "i", "z"}) {
            both(word, 1, 0);
            both("(" + word + ")", 1, 1);
        }
    }

    private static void oneOrZero() {
        CHECKS.by("Of not, and, or, < and = comes 1 or 0; what is not 0 is so");
        String[] ones = {"not 0", "not not 5", "(3 and 4)", "(0 or 7)", "(7 or 0)", "(7 or 7)", "(1<2)", "(0-1<0)", "(5=5)"};
        for (String one : ones) {
            so(one + "=1", true);
        }
        String[] zeros = {"not 1", "not 5", "not(0-1)", "(0 and 1)", "(1 and 0)", "(0 or 0)", "(2<2)", "(3<2)", "(5=6)"};
        for (String zero : zeros) {
            so(zero + "=0", true);
        }
        so("0", false);
        so("1", true);
        so("0-1", true);
        so("2 and 4", true);
        so("(0-1) and 9999", true);
    }

    private static void wraps() {
        CHECKS.by("ints wrap.");
        String least = "8192*8192*32";
        so(least + "<0", true);
        so(least + "-1<0", false);
        so("0<" + least + "-1", true);
        so(least + "-1+1=" + least, true);
        so("0-" + least + "=" + least, true);
        so("(0-1)*(" + least + ")<0", true);
        so("8192*8192*64", false);
        so("8192*8192*64+1=1", true);
        so("8192*8192*31", true);
        // 99,980,001 * 21 is below 2^31, * 22 is not.
        so("0<9999*9999*21", true);
        so("9999*9999*22<0", true);
        so("9999*9999*21+9999*9999<0", true);
        OldLift lift = Texts.liftByRule(least + "-1+car");
        lift.cars(2, 4, 1, 0);
        lift.person(0, 0, 1);
        CHECKS.due("one more than the most is the least", lift.rode(0, 0), 1);
        Texts.readRule(lift, least + "-car");
        CHECKS.due("one less than the least is the most", lift.rode(0, 0), 0);
        Texts.readRule(lift, "8192*8192*64*car");
        CHECKS.due("equal: car 0", lift.rode(0, 0), 0);
    }

    private static void theEnd() {
        CHECKS.by("kind + 16 * the place (from 0) of a token, the end being one at the text's length");
        circuit("u", 1, 0);
        circuit("up", 1, 2);
        circuit("up=", 1, 3);
        circuit("up=1", 1, 4);
        circuit("up=1 ", 1, 5);
        circuit("up=1\n\n\n", 1, 7);
        circuit("relay", 1, 5);
        circuit("relay a", 1, 7);
        circuit("lamp", 1, 4);
        circuit("lamp 0", 1, 6);
        circuit("never", 1, 5);
        circuit("never ", 1, 6);
        circuit("up=call", 1, 7);
        circuit("up=(1", 1, 5);
        circuit("up=not", 1, 6);
        rule("(", 1, 1);
        rule("far+", 1, 4);
        rule("far+ ", 1, 5);
        circuit(" ".repeat(998) + "up", 1, 1000);
        circuit(" ".repeat(999) + "u", 1, 999);
        circuit(" ".repeat(999) + "up", 1, 999);
        circuit(" ".repeat(995) + "up=1;", 0, 0);
        circuit(" ".repeat(996) + "up=1;", 1, 1000);
        rule(" ".repeat(999) + "1", 0, 0);
        rule("1" + " ".repeat(999), 0, 0);
        rule("1+" + " ".repeat(998), 1, 1000);
        rule("1" + " ".repeat(998) + "1", 1, 999);
        rule("1+".repeat(500), 1, 1000);
        rule("1+".repeat(499) + "1", 0, 0);
        rule("1+".repeat(499) + "11", 0, 0);
        rule("1+".repeat(499) + "1+", 1, 1000);
        circuit("$", 1, 0);
        rule("$", 1, 0);
    }

    private static void theFirst() {
        CHECKS.by("of the first token from the left that is wrong");
        circuit("up=1;up=1;lamp 8=1;$", 3, 5);
        circuit("lamp 8=1;up=1;up=1;$", 4, 5);
        circuit("$up=1;up=1;lamp 8=1;", 1, 0);
        circuit("up=call 4;up=1;", 4, 8);
        circuit("up=not not not not not 1;up=1;", 5, 23);
        circuit("never 1;".repeat(7) + "up=1;up=1;", 5, 48);
        circuit("up=1;up=1;" + "never 1;".repeat(7), 3, 5);
        circuit("relay a=1;relay a$", 3, 16);
        circuit("lamp 0=1;lamp 0$", 3, 14);
        circuit("up=1;up$", 3, 5);
        circuit("lamp 8$", 4, 5);
        circuit("up=call 4$", 4, 8);
        circuit("up=1$;up=1;", 1, 4);
        circuit("up=(1;up=1;", 1, 5);
    }

    private static void theLeast() {
        CHECKS.by("wrong the least: 1 it is none, or can't stand there");
        // Within 5 others and what can't stand there at all: 1 is less than 5.
        for (String none : new String[] {"$", "far", "up", ")", ";", "and", "+", "12345", "abcdefghi", "i", ""}) {
            circuit("up=(((((" + none, 1, 8);
            circuit("up=not not not not not " + none, 1, 23);
        }
        for (String part : new String[] {"1", "a", "call 9", "at 0", "open", "any", "not", "(", "not $", "($"}) {
            circuit("up=(((((" + part, 5, 8);
            circuit("up=not not not not not " + part, 5, 23);
        }
        circuit("never 1;".repeat(6) + "nevers", 1, 48);
    }

    private static void fromThenOn() {
        CHECKS.by("A CIRCUIT, a RULE without a FAULT is the one from then on (at first, and when FLOORS are told, there is none)");
        OldLift lift = new OldLift();
        lift.cars(2, 4, 1, 0);
        lift.person(0, 0, 1);
        CHECKS.due("no rule at first", lift.rode(0, 0), 0);
        Texts.readRule(lift, "0-car");
        CHECKS.due("the rule", lift.rode(0, 0), 1);
        CHECKS.due("a fault", Texts.readRule(lift, "car)"), 1 + 16 * 3);
        CHECKS.due("the one ahead stays", lift.rode(0, 0), 1);
        CHECKS.due("another", Texts.readRule(lift, "car"), 0);
        CHECKS.due("the other one", lift.rode(0, 0), 0);
        Texts.readRule(lift, "0-car");
        Texts.readCircuit(lift, "lamp 0=1;never 1;");
        CHECKS.due("a circuit leaves the rule", lift.rode(0, 0), 1);
        CHECKS.due("the circuit", lift.look(3), 1);
        Texts.readRule(lift, "car");
        CHECKS.due("a rule leaves the circuit", lift.look(3), 1);
        CHECKS.due("a fault", Texts.readCircuit(lift, "lamp 1=1;lamp 2"), 1 + 16 * 15);
        CHECKS.due("the circuit stays", lift.look(3), 1);
        CHECKS.due("and its never line", lift.count(1), 1);
        Texts.readCircuit(lift, "lamp 1=1;");
        CHECKS.due("the other one alone", lift.look(3), 2);
        CHECKS.due("no never line", lift.count(1), 0);
        Texts.readRule(lift, "0-car");
        lift.floors(4);
        CHECKS.due("no circuit", lift.look(3), 0);
        lift.cars(2, 4, 1, 0);
        lift.person(0, 0, 1);
        CHECKS.due("no rule", lift.rode(0, 0), 0);
    }

    private static void startBehindCircuit() {
        CHECKS.by("behind a CIRCUIT it is START, nothing is THOUGHT.");
        String text = "relay a=any;up=a;lamp 0=a;";
        for (String next : new String[] {text, "", "door=1;"}) {
            OldLift lift = Texts.liftWith(2, text);
            lift.press(0);
            lift.press(0);
            lift.stuck(1);
            CHECKS.due("circuit", Texts.readCircuit(lift, next), 0);
            for (int what = 0; what < 6; what++) {
                CHECKS.due("start, look " + what, lift.look(what), 0);
            }
            CHECKS.due("nothing is thought", lift.thought(0), NONE);
            CHECKS.due("none was stuck", lift.tried(0, 0), NONE);
            CHECKS.due("no tests", lift.tests(0), NONE);
        }
        OldLift lift = Texts.liftWith(2, text);
        lift.press(0);
        lift.press(0);
        lift.stuck(1);
        CHECKS.due("a fault", Texts.readCircuit(lift, text + "up"), 3 + 16 * 26);
        CHECKS.due("relays stay", lift.look(0), 1);
        CHECKS.due("floor stays", lift.look(1), 1);
        CHECKS.due("bumps stay", lift.look(4), 1);
        CHECKS.due("ticks stay", lift.look(5), 2);
        CHECKS.due("thought stays", lift.thought(0), 1);
        lift.rule();
        CHECKS.due("a rule leaves it", lift.look(5), 2);
        CHECKS.due("a rule leaves it", lift.thought(0), 1);
    }

    private static void emptyRule() {
        CHECKS.by("an empty one: there is none then, 0.");
        for (String text : new String[] {"", " ", "\n", " \n ", " ".repeat(1000)}) {
            OldLift lift = Texts.liftByRule("0-car");
            lift.cars(2, 4, 1, 0);
            lift.person(0, 0, 1);
            CHECKS.due("a rule", lift.rode(0, 0), 1);
            CHECKS.due("an empty one", Texts.readRule(lift, text), 0);
            CHECKS.due("none", lift.rode(0, 0), 0);
            CHECKS.due("an empty one again", Texts.readRule(lift, text), 0);
            CHECKS.due("none", lift.rode(0, 0), 0);
        }
    }
}
