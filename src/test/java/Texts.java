import java.util.Random;

/** Texts for tests: how they are fed, and random ones. */
final class Texts {
    private Texts() { }

    /** Eight signs of the text from a place on as the bytes of a long, the highest first. */
    static long eight(String text, int from) {
        long packed = 0;
        for (int i = from; i < from + 8; i++) {
            packed = packed << 8 | (i < text.length() ? text.charAt(i) : 0);
        }
        return packed;
    }

    static int feed(OldLift lift, String text) {
        int there = lift.count(7);
        for (int i = 0; i < text.length(); i += 24) {
            there = lift.feed(eight(text, i), eight(text, i + 8), eight(text, i + 16));
        }
        return there;
    }

    static int readCircuit(OldLift lift, String text) {
        feed(lift, text);
        return lift.circuit();
    }

    static int readRule(OldLift lift, String text) {
        feed(lift, text);
        return lift.rule();
    }

    /** A new object with so many floors and this circuit, which must have no fault. */
    static OldLift liftWith(int floors, String circuit) {
        OldLift lift = new OldLift();
        if (!lift.floors(floors) || readCircuit(lift, circuit) != 0) {
            throw new IllegalArgumentException("the test's own circuit has a fault: " + circuit);
        }
        return lift;
    }

    /** A new object with this rule, which must have no fault. */
    static OldLift liftByRule(String rule) {
        OldLift lift = new OldLift();
        if (readRule(lift, rule) != 0) {
            throw new IllegalArgumentException("the test's own rule has a fault: " + rule);
        }
        return lift;
    }

    static String expression(Random random, boolean rule, int floors, int depth) {
        StringBuilder text = new StringBuilder(test(random, rule, floors, depth));
        while (random.nextInt(3) == 0) {
            text.append(random.nextBoolean() ? " and " : " or ").append(test(random, rule, floors, depth));
        }
        return text.toString();
    }

    private static String test(Random random, boolean rule, int floors, int depth) {
        String text = sum(random, rule, floors, depth);
        if (random.nextInt(4) == 0) {
            text += (random.nextBoolean() ? "<" : " = ") + sum(random, rule, floors, depth);
        }
        return text;
    }

    private static String sum(Random random, boolean rule, int floors, int depth) {
        StringBuilder text = new StringBuilder(part(random, rule, floors, depth));
        while (random.nextInt(5) == 0) {
            text.append("+-*".charAt(random.nextInt(3))).append(part(random, rule, floors, depth));
        }
        return text.toString();
    }

    private static String part(Random random, boolean rule, int floors, int depth) {
        int pick = random.nextInt(10);
        // What lies deeper than 4 is a fault; most texts shall have none.
        int deepest = random.nextInt(60) == 0 ? 6 : 4;
        if (pick < 2 && depth < deepest) {
            return " not " + part(random, rule, floors, depth + 1);
        }
        if (pick < 4 && depth < deepest) {
            return "(" + expression(random, rule, floors, depth + 1) + ")";
        }
        if (pick == 4) {
            return String.valueOf(random.nextInt(8) == 0 ? random.nextInt(12000) : random.nextInt(4));
        }
        if (rule) {
            String[] facts = {"far", "load", "stops", "toward", "idle", "floor", "from", "to", "car", "time"};
            return facts[random.nextInt(facts.length)];
        }
        switch (random.nextInt(5)) {
            case 0: return "call " + random.nextInt(floors);
            case 1: return "at " + random.nextInt(floors);
            case 2: return random.nextInt(3) == 0 ? "any" : "open";
            default: return String.valueOf((char) ('a' + random.nextInt(random.nextInt(6) == 0 ? 8 : 3)));
        }
    }

    static String circuit(Random random, int floors) {
        StringBuilder text = new StringBuilder();
        boolean lively = random.nextInt(3) != 0;
        int relays = lively ? 2 + random.nextInt(4) : 1 + random.nextInt(random.nextInt(8) == 0 ? 8 : 4);
        for (int i = 0; i < relays; i++) {
            text.append("relay ").append((char) ('a' + i)).append('=');
            if (lively && i < floors && random.nextInt(5) != 0) {
                text.append("(call " + i + " or " + (char) ('a' + i) + ") and not (open and at " + i + ")");
            } else {
                text.append(expression(random, false, floors, 1));
            }
            text.append(";\n");
        }
        text.append(lively ? livelyMoves(random, Math.min(relays, floors)) : wildMoves(random, floors));
        int lamps = random.nextInt(5);
        for (int i = 0; i < lamps; i++) {
            String simple = random.nextInt(3) == 0 ? "open" : String.valueOf((char) ('a' + random.nextInt(3)));
            String shown = random.nextBoolean() ? expression(random, false, floors, 2) : simple;
            text.append("lamp " + (i * 2 + random.nextInt(2)) + "=" + shown + ";");
        }
        int nevers = random.nextInt(6) == 0 ? 5 + random.nextInt(2) : random.nextInt(4);
        for (int i = 0; i < nevers; i++) {
            text.append(" never " + expression(random, false, floors, 2) + ";");
        }
        return text.toString();
    }

    private static String wildMoves(Random random, int floors) {
        StringBuilder text = new StringBuilder();
        for (String move : new String[] {"up", "down", "door"}) {
            if (random.nextInt(8) != 0) {
                text.append(move + " = " + expression(random, false, floors, 1) + ";");
            }
        }
        return text.toString();
    }

    /** A car that mostly goes where relays are on and opens there; at times something is left out. */
    private static String livelyMoves(Random random, int served) {
        StringBuilder place = new StringBuilder("0");
        for (int n = 1; n < 6 && n < served + 1; n++) {
            place.append("+" + n + "*at " + Math.min(n, served - 1));
        }
        StringBuilder above = new StringBuilder("(0");
        StringBuilder below = new StringBuilder("(0");
        StringBuilder here = new StringBuilder("(0");
        for (int n = 0; n < served; n++) {
            String relay = String.valueOf((char) ('a' + n));
            above.append(random.nextInt(20) == 0 ? "" : " or " + relay + "*(" + place + "<" + n + ")");
            below.append(random.nextInt(20) == 0 ? "" : " or " + relay + "*(" + n + "<" + place + ")");
            here.append(random.nextInt(20) == 0 ? "" : " or " + relay + "*at " + n);
        }
        String stay = random.nextInt(4) == 0 ? "" : " and not " + here + ")";
        String order = random.nextInt(4) == 0 ? "" : " and not " + below + ")";
        return "up=" + above + ")" + order + stay + ";down=" + below + ")" + stay + ";door=" + here + ");";
    }

    /** A text with a line more, mostly one that is told already or one too many. */
    static String longer(Random random, String text) {
        String[] lines = {"never 1;", "lamp 3=1;", "relay a=1;", "up=1;", "down=2;", "door=at 0;", "lamp 8=0;",
            "relay h = call 6;", "never 0;never 0;never 0;", "lamp 0=at 5;", "relay i=1;", "relay g=not h;"};
        StringBuilder out = new StringBuilder(text);
        for (int n = 0; n < 2; n++) {
            int at = random.nextInt(out.length() + 1);
            while (at < out.length() && (at == 0 || out.charAt(at - 1) != ';')) {
                at++;
            }
            out.insert(at, lines[random.nextInt(lines.length)]);
        }
        return out.toString();
    }

    /** A text with a sign or a word changed, put in or left out here and there. */
    static String broken(Random random, String text) {
        String[] bits = {"(", ")", "not ", "never 1;", "lamp 3=1;", "relay a=1;", "up=1;", "9", "call 5", ";", "=",
            "<", " ", "$", "A", "far", "open", "abcdefghi", "12345", "at ", "door", "and", "z", "\n"};
        StringBuilder out = new StringBuilder(text);
        int changes = 1 + random.nextInt(3);
        for (int n = 0; n < changes && out.length() > 0; n++) {
            int at = random.nextInt(out.length());
            if (random.nextInt(3) == 0) {
                out.deleteCharAt(at);
            } else {
                out.insert(at, bits[random.nextInt(bits.length)]);
            }
        }
        return out.toString();
    }
}
