import java.util.ArrayList;
import java.util.Collections;
import java.util.HashMap;
import java.util.HashSet;
import java.util.List;
import java.util.Map;
import java.util.NoSuchElementException;
import java.util.Random;
import java.util.Set;
import java.util.TreeMap;

/**
 * The document said once more, in the plainest way and without a thought for speed: a second
 * opinion that the tests hold against the program. It shares no code and few ideas with it.
 */
final class Model {
    static final int NONE = -1;

    /** One token; kind: 'w' word, 'n' number, 'x' none, 'e' the end, else the sign itself. */
    record Token(char kind, String text, int place) {
        int number() {
            return Integer.parseInt(text);
        }
    }

    record State(int relays, int floor, boolean open) { }

    record Person(int time, int from, int to) { }

    record Hold(int time, int car, int n) { }

    record Trip(int from, int to, int n) { }

    /** What a run left behind. */
    static final class Ran {
        int over;
        List<Person> who = new ArrayList<>();
        int[] car = new int[0];
        int[] in = new int[0];
        int[] out = new int[0];
        int[][] passed = new int[2][5];
        int[] stops = new int[2];

        int wait(int p) {
            return in[p] == NONE ? 900 : in[p] - who.get(p).time();
        }
    }

    private final StringBuilder tape = new StringBuilder();
    private int floors;
    private Map<String, List<Token>> lines;
    private List<List<Token>> nevers;
    private List<Token> rule;
    private State now;
    private int bumps;
    private int ticks;
    private Map<State, String> reached;
    private Set<State> thought;
    private final Map<State, State[]> remembered = new HashMap<>();
    private final Map<State, Integer> rememberedLamps = new HashMap<>();
    private int cars;
    private int size;
    private int doors;
    private int park;
    private List<Person> persons;
    private List<Hold> holds;
    private int fire;
    private List<Trip> trips;
    private int slip;
    private int life;
    private int days;

    Model() {
        fresh(4);
    }

    private void fresh(int n) {
        floors = n;
        lines = new HashMap<>();
        nevers = new ArrayList<>();
        rule = null;
        afterCircuit();
        cars = 1;
        size = 4;
        doors = 1;
        park = 0;
        nobody();
        trips = new ArrayList<>();
        slip = 0;
        life = 1000;
        days = 1;
    }

    private void afterCircuit() {
        again();
        reached = null;
        thought = null;
        remembered.clear();
        rememberedLamps.clear();
    }

    boolean floors(int n) {
        if (n < 2 || n > 6) {
            return false;
        }
        fresh(n);
        return true;
    }

    int feed(long a, long b, long c) {
        for (long eight : new long[] {a, b, c}) {
            for (int i = 7; i >= 0; i--) {
                int sign = (int) (eight >>> 8 * i & 255);
                if ((sign == 10 || sign >= 32 && sign <= 126) && tape.length() < 1000) {
                    tape.append((char) sign);
                }
            }
        }
        return tape.length();
    }

    // ---- texts

    private static List<Token> cut(String text) {
        List<Token> tokens = new ArrayList<>();
        int i = 0;
        while (i < text.length()) {
            String rest = text.substring(i);
            String word = rest.replaceFirst("(?s)^([a-z]*).*$", "$1");
            String digits = rest.replaceFirst("(?s)^([0-9]*).*$", "$1");
            char sign = text.charAt(i);
            if (!word.isEmpty()) {
                tokens.add(new Token(word.length() > 8 ? 'x' : 'w', word, i));
                i += word.length();
            } else if (!digits.isEmpty()) {
                tokens.add(new Token(digits.length() > 4 ? 'x' : 'n', digits, i));
                i += digits.length();
            } else {
                if (sign != ' ' && sign != '\n') {
                    tokens.add(new Token("()<=+-*;".indexOf(sign) >= 0 ? sign : 'x', "", i));
                }
                i++;
            }
        }
        tokens.add(new Token('e', "", text.length()));
        return tokens;
    }

    /** Goes over tokens one by one with a stack of what stands open; no grammar calls itself. */
    private final class Walk {
        final List<Token> tokens;
        final boolean isRule;
        int i;
        int fault;

        Walk(List<Token> tokens, boolean isRule) {
            this.tokens = tokens;
            this.isRule = isRule;
        }

        Token token() {
            return tokens.get(i);
        }

        boolean is(String word) {
            return token().kind() == 'w' && token().text().equals(word);
        }

        boolean wrong(int kind) {
            if (fault == 0) {
                fault = kind + 16 * token().place();
            }
            return false;
        }

        /** The tokens of an E, up to the first one that is none of it; null: a fault. */
        List<Token> expression() {
            List<Token> taken = new ArrayList<>();
            StringBuilder open = new StringBuilder();
            List<Boolean> outer = new ArrayList<>();
            boolean wantsPart = true;
            boolean compared = false;
            while (true) {
                Token t = token();
                if (wantsPart) {
                    boolean leaf = t.kind() == 'n' || isFact();
                    if (!leaf && !is("not") && t.kind() != '(') {
                        wrong(1);
                        return null;
                    }
                    if (open.length() >= 5) {
                        wrong(5);
                        return null;
                    }
                    taken.add(t);
                    i++;
                    if (t.kind() == '(') {
                        open.append('(');
                        outer.add(compared);
                        compared = false;
                    } else if (!leaf) {
                        open.append('n');
                    } else {
                        if (t.kind() == 'w' && (t.text().equals("call") || t.text().equals("at"))) {
                            if (token().kind() != 'n') {
                                wrong(1);
                                return null;
                            }
                            if (token().number() >= floors) {
                                wrong(4);
                                return null;
                            }
                            taken.add(token());
                            i++;
                        }
                        dropNots(open);
                        wantsPart = false;
                    }
                    continue;
                }
                if (t.kind() == ')' && open.length() > 0) {
                    open.setLength(open.length() - 1);
                    compared = outer.remove(outer.size() - 1);
                    dropNots(open);
                } else if (t.kind() == '*' || t.kind() == '+' || t.kind() == '-') {
                    wantsPart = true;
                } else if ((t.kind() == '<' || t.kind() == '=') && !compared) {
                    wantsPart = true;
                    compared = true;
                } else if (is("and") || is("or")) {
                    wantsPart = true;
                    compared = false;
                } else if (open.length() > 0) {
                    wrong(1);
                    return null;
                } else {
                    return taken;
                }
                taken.add(t);
                i++;
            }
        }

        private void dropNots(StringBuilder open) {
            while (open.length() > 0 && open.charAt(open.length() - 1) == 'n') {
                open.setLength(open.length() - 1);
            }
        }

        private boolean isFact() {
            if (token().kind() != 'w') {
                return false;
            }
            String word = token().text();
            if (isRule) {
                return List.of("far", "load", "stops", "toward", "idle", "floor", "from", "to", "car", "time")
                    .contains(word);
            }
            return word.matches("[a-h]") || List.of("call", "at", "open", "any").contains(word);
        }

        /** Takes one line of a circuit into these; false: a fault. */
        boolean line(Map<String, List<Token>> into, List<List<Token>> intoNevers) {
            String name;
            if (is("never")) {
                if (intoNevers.size() == 6) {
                    return wrong(5);
                }
                i++;
                List<Token> e = expression();
                intoNevers.add(e);
                return e != null && sign(';');
            }
            if (is("relay")) {
                i++;
                if (token().kind() != 'w' || !token().text().matches("[a-h]")) {
                    return wrong(1);
                }
                name = token().text();
            } else if (is("lamp")) {
                i++;
                if (token().kind() != 'n') {
                    return wrong(1);
                }
                if (token().number() > 7) {
                    return wrong(4);
                }
                name = "lamp" + token().number();
            } else if (is("up") || is("down") || is("door")) {
                name = token().text();
            } else {
                return wrong(1);
            }
            if (into.containsKey(name)) {
                return wrong(3);
            }
            i++;
            if (!sign('=')) {
                return false;
            }
            List<Token> e = expression();
            into.put(name, e);
            return e != null && sign(';');
        }

        boolean sign(char wanted) {
            if (token().kind() != wanted) {
                return wrong(1);
            }
            i++;
            return true;
        }
    }

    int circuit() {
        Walk walk = new Walk(cut(tape.toString()), false);
        tape.setLength(0);
        Map<String, List<Token>> newLines = new HashMap<>();
        List<List<Token>> newNevers = new ArrayList<>();
        while (walk.token().kind() != 'e') {
            if (!walk.line(newLines, newNevers)) {
                return walk.fault;
            }
        }
        lines = newLines;
        nevers = newNevers;
        afterCircuit();
        return 0;
    }

    int rule() {
        String text = tape.toString();
        tape.setLength(0);
        if (text.replace("\n", "").replace(" ", "").isEmpty()) {
            rule = null;
            return 0;
        }
        Walk walk = new Walk(cut(text), true);
        List<Token> e = walk.expression();
        if (e == null || !walk.sign('e')) {
            return walk.fault;
        }
        rule = e;
        return 0;
    }

    /** Splits at the operator that binds least, the last of them, and so works from the left. */
    private static int value(List<Token> e, Map<String, Integer> facts) {
        if (e == null) {
            return 0;
        }
        for (String operators : new String[] {"and or", "< =", "+ -", "*"}) {
            int depth = 0;
            for (int i = e.size() - 1; i > 0; i--) {
                Token t = e.get(i);
                depth += t.kind() == ')' ? 1 : t.kind() == '(' ? -1 : 0;
                String name = t.kind() == 'w' ? t.text() : String.valueOf(t.kind());
                if (depth == 0 && List.of(operators.split(" ")).contains(name)) {
                    int left = value(e.subList(0, i), facts);
                    int right = value(e.subList(i + 1, e.size()), facts);
                    return switch (name) {
                        case "and" -> left != 0 && right != 0 ? 1 : 0;
                        case "or" -> left != 0 || right != 0 ? 1 : 0;
                        case "<" -> left < right ? 1 : 0;
                        case "=" -> left == right ? 1 : 0;
                        case "+" -> left + right;
                        case "-" -> left - right;
                        default -> left * right;
                    };
                }
            }
        }
        Token head = e.get(0);
        if (head.kind() == '(') {
            return value(e.subList(1, e.size() - 1), facts);
        }
        if (head.kind() == 'n') {
            return head.number();
        }
        if (head.text().equals("not")) {
            return value(e.subList(1, e.size()), facts) == 0 ? 1 : 0;
        }
        String name = e.size() == 2 ? head.text() + e.get(1).number() : head.text();
        return facts.getOrDefault(name, 0);
    }

    // ---- the circuit

    private Map<String, Integer> factsOf(int relays, State state, int button) {
        Map<String, Integer> facts = new HashMap<>();
        for (int i = 0; i < 8; i++) {
            facts.put(String.valueOf((char) ('a' + i)), relays >> i & 1);
        }
        facts.put("at" + state.floor(), 1);
        facts.put("open", state.open() ? 1 : 0);
        if (button != NONE) {
            facts.put("call" + button, 1);
            facts.put("any", 1);
        }
        return facts;
    }

    private boolean isOn(String line, Map<String, Integer> facts) {
        return value(lines.get(line), facts) != 0;
    }

    private boolean bumps(State state, int button) {
        Map<String, Integer> facts = factsOf(relaysBehind(state, button), state, button);
        boolean up = isOn("up", facts);
        return !state.open() && up != isOn("down", facts) && state.floor() == (up ? floors - 1 : 0);
    }

    private int relaysBehind(State state, int button) {
        Map<String, Integer> facts = factsOf(state.relays(), state, button);
        int relays = 0;
        for (int i = 0; i < 8; i++) {
            relays |= isOn(String.valueOf((char) ('a' + i)), facts) ? 1 << i : 0;
        }
        return relays;
    }

    private State behind(State state, int button) {
        State[] row = remembered.computeIfAbsent(state, k -> new State[7]);
        if (row[1 + button] == null) {
            row[1 + button] = stateBehind(state, button);
        }
        return row[1 + button];
    }

    private State stateBehind(State state, int button) {
        int relays = relaysBehind(state, button);
        Map<String, Integer> facts = factsOf(relays, state, button);
        boolean up = isOn("up", facts);
        boolean down = isOn("down", facts);
        boolean door = isOn("door", facts);
        if (state.open()) {
            return new State(relays, state.floor(), door);
        }
        if (up && !down) {
            return new State(relays, Math.min(floors - 1, state.floor() + 1), false);
        }
        if (down && !up) {
            return new State(relays, Math.max(0, state.floor() - 1), false);
        }
        return new State(relays, state.floor(), door);
    }

    private int lampsIn(State state) {
        return rememberedLamps.computeIfAbsent(state, this::lampsOf);
    }

    private int lampsOf(State state) {
        int lamps = 0;
        for (int i = 0; i < 8; i++) {
            lamps |= isOn("lamp" + i, factsOf(state.relays(), state, NONE)) ? 1 << i : 0;
        }
        return lamps;
    }

    int press(int button) {
        if (button < NONE || button >= floors) {
            return NONE;
        }
        bumps += bumps(now, button) ? 1 : 0;
        now = behind(now, button);
        ticks++;
        return lampsIn(now);
    }

    boolean again() {
        now = new State(0, 0, false);
        bumps = 0;
        ticks = 0;
        return true;
    }

    int look(int what) {
        return switch (what) {
            case 0 -> now.relays();
            case 1 -> now.floor();
            case 2 -> now.open() ? 1 : 0;
            case 3 -> lampsIn(now);
            case 4 -> bumps;
            case 5 -> ticks;
            default -> throw new NoSuchElementException();
        };
    }

    /** Each reached state with its first row of the fewest buttons, a sign each. */
    private Map<State, String> reached() {
        if (reached != null) {
            return reached;
        }
        reached = new HashMap<>();
        Map<State, String> level = new HashMap<>();
        level.put(new State(0, 0, false), "");
        while (!level.isEmpty()) {
            reached.putAll(level);
            Map<State, String> further = new HashMap<>();
            for (Map.Entry<State, String> e : level.entrySet()) {
                for (int b = 0; b <= floors; b++) {
                    State s = behind(e.getKey(), b - 1);
                    String row = e.getValue() + b;
                    if (!reached.containsKey(s)
                        && (!further.containsKey(s) || row.compareTo(further.get(s)) < 0)) {
                        further.put(s, row);
                    }
                }
            }
            level = further;
        }
        return reached;
    }

    private static String firstRow(List<String> rows) {
        String least = null;
        for (String row : rows) {
            boolean before = least == null || row.length() < least.length()
                || row.length() == least.length() && row.compareTo(least) < 0;
            least = before ? row : least;
        }
        return least;
    }

    private String neverBreaks(int line) {
        List<String> rows = new ArrayList<>();
        for (Map.Entry<State, String> e : reached().entrySet()) {
            if (value(nevers.get(line), factsOf(e.getKey().relays(), e.getKey(), NONE)) != 0) {
                rows.add(e.getValue());
            }
        }
        return firstRow(rows);
    }

    private String forgottenBy(int floor, int patience) {
        List<String> rows = new ArrayList<>();
        for (Map.Entry<State, String> e : reached().entrySet()) {
            State s = e.getKey();
            boolean served = false;
            for (int i = 0; i < patience && !served; i++) {
                s = behind(s, i == 0 ? floor : NONE);
                served = s.open() && s.floor() == floor;
            }
            if (!served) {
                rows.add(e.getValue());
            }
        }
        return firstRow(rows);
    }

    private static int inRow(String row, int i) {
        return row == null || i < 0 || i >= row.length() ? NONE : row.charAt(i) - '0';
    }

    int never(int line, int what) {
        if (line < 0 || line >= nevers.size() || what < 0 || what > 1) {
            return NONE;
        }
        String row = neverBreaks(line);
        return what == 0 ? row == null ? 1 : 0 : row == null ? NONE : row.length();
    }

    int neverRow(int line, int i) {
        return line < 0 || line >= nevers.size() ? NONE : inRow(neverBreaks(line), i);
    }

    int forgets(int floor, int patience, int what) {
        if (floor < 0 || floor >= floors || patience < 1 || patience > 60 || what < 0 || what > 1) {
            return NONE;
        }
        String row = forgottenBy(floor, patience);
        return what == 0 ? row == null ? 0 : 1 : row == null ? NONE : row.length();
    }

    int forgetsRow(int floor, int patience, int i) {
        if (floor < 0 || floor >= floors || patience < 1 || patience > 60) {
            return NONE;
        }
        return inRow(forgottenBy(floor, patience), i);
    }

    // ---- stuck

    private Map<Integer, Set<State>> byLamps(Set<State> states) {
        Map<Integer, Set<State>> groups = new TreeMap<>();
        for (State s : states) {
            groups.computeIfAbsent(lampsIn(s), k -> new HashSet<>()).add(s);
        }
        return groups;
    }

    private Set<State> behindAll(Set<State> states, int button) {
        Set<State> all = new HashSet<>();
        for (State s : states) {
            all.add(behind(s, button));
        }
        return all;
    }

    /** Lamps that may be seen: in a reached state, or behind a button in one that is thought. */
    int lampsSeen(Random random, int button, boolean then) {
        if (then && (thought == null || thought.isEmpty() || button < NONE || button >= floors)) {
            return 0;
        }
        Set<State> states = then ? behindAll(thought, button) : reached().keySet();
        List<Integer> seen = new ArrayList<>(byLamps(states).keySet());
        return seen.get(random.nextInt(seen.size()));
    }

    int stuck(int lamps) {
        if (lamps < 0 || lamps > 255) {
            return NONE;
        }
        thought = byLamps(reached().keySet()).getOrDefault(lamps, new HashSet<>());
        return thought.size();
    }

    int tried(int button, int lamps) {
        if (button < NONE || button >= floors || lamps < 0 || lamps > 255 || thought == null) {
            return NONE;
        }
        thought = byLamps(behindAll(thought, button)).getOrDefault(lamps, new HashSet<>());
        return thought.size();
    }

    int thought(int what) {
        if (thought == null || what < 0 || what > 4) {
            return NONE;
        }
        if (what == 0 || thought.isEmpty()) {
            return what == 0 ? thought.size() : NONE;
        }
        int all = 255;
        int some = 0;
        int at = 0;
        Set<Boolean> open = new HashSet<>();
        for (State s : thought) {
            all &= s.relays();
            some |= s.relays();
            at |= 1 << s.floor();
            open.add(s.open());
        }
        return switch (what) {
            case 1 -> all;
            case 2 -> some;
            case 3 -> at;
            default -> open.size() == 2 ? 2 : open.contains(true) ? 1 : 0;
        };
    }

    private boolean known(Set<State> states) {
        Set<Integer> at = new HashSet<>();
        for (State s : states) {
            at.add(s.floor());
        }
        return at.size() <= 1;
    }

    private boolean good(Set<State> states, int button, int ticks) {
        for (Set<State> group : byLamps(behindAll(states, button)).values()) {
            boolean fine = known(group);
            for (int b = NONE; b < floors && !fine && ticks > 1; b++) {
                fine = good(group, b, ticks - 1);
            }
            if (!fine) {
                return false;
            }
        }
        return true;
    }

    int tests(int what) {
        if (thought == null || thought.isEmpty() || what < 0 || what > 1) {
            return NONE;
        }
        if (known(thought)) {
            return what == 0 ? 0 : NONE;
        }
        for (int k = 1; k <= 3; k++) {
            for (int b = NONE; b < floors; b++) {
                if (good(thought, b, k)) {
                    return what == 0 ? k : 1 + b;
                }
            }
        }
        return NONE;
    }

    // ---- cars

    boolean cars(int n, int newSize, int newDoors, int newPark) {
        if (n < 1 || n > 2 || newSize < 1 || newSize > 8 || newDoors < 0 || newDoors > 9
            || newPark < 0 || newPark >= floors) {
            return false;
        }
        cars = n;
        size = newSize;
        doors = newDoors;
        park = newPark;
        return true;
    }

    int person(int time, int from, int to) {
        if (time < 0 || time > 300 || from < 0 || from >= floors || to < 0 || to >= floors || from == to
            || persons.size() == 24) {
            return NONE;
        }
        persons.add(new Person(time, from, to));
        return persons.size() - 1;
    }

    boolean hold(int time, int car, int n) {
        if (time < 0 || time > 899 || car < 0 || car > 1 || n < 1 || n > 60 || holds.size() == 8) {
            return false;
        }
        holds.add(new Hold(time, car, n));
        return true;
    }

    boolean fire(int time) {
        if (time < NONE || time > 899) {
            return false;
        }
        fire = time;
        return true;
    }

    boolean nobody() {
        persons = new ArrayList<>();
        holds = new ArrayList<>();
        fire = NONE;
        return true;
    }

    /** A car of a run, with lists of persons by number. */
    private final class Car {
        final int number;
        final Ran r;
        int floor;
        int heading;
        int standing;
        List<Integer> inside = new ArrayList<>();
        List<Integer> waiting = new ArrayList<>();

        Car(int number, Ran r) {
            this.number = number;
            this.r = r;
        }

        Set<Integer> goals() {
            Set<Integer> goals = new HashSet<>();
            for (int p : inside) {
                goals.add(r.who.get(p).to());
            }
            if (inside.size() < size) {
                for (int p : waiting) {
                    goals.add(r.who.get(p).from());
                }
            }
            return goals;
        }

        int rate(Person p, int time) {
            Map<String, Integer> facts = new HashMap<>();
            int gap = p.from() - floor;
            boolean behind = heading > 0 && gap < 0 || heading < 0 && gap > 0;
            facts.put("far", gap < 0 ? -gap : gap);
            facts.put("load", inside.size());
            facts.put("stops", goals().size());
            facts.put("toward", behind ? 0 : 1);
            facts.put("idle", goals().isEmpty() ? 1 : 0);
            facts.put("floor", floor);
            facts.put("from", p.from());
            facts.put("to", p.to());
            facts.put("car", number);
            facts.put("time", time);
            return value(rule, facts);
        }

        void act(int time) {
            if (standing > 0) {
                standing--;
                return;
            }
            if (fire != NONE && time >= fire) {
                if (floor > 0) {
                    goTo(floor - 1);
                } else {
                    for (int p : inside) {
                        r.out[p] = time;
                    }
                    inside.clear();
                }
                return;
            }
            List<Integer> outs = new ArrayList<>();
            for (int p : inside) {
                if (r.who.get(p).to() == floor) {
                    outs.add(p);
                }
            }
            List<Integer> ins = new ArrayList<>();
            Collections.sort(waiting);
            for (int p : waiting) {
                if (r.who.get(p).from() == floor && inside.size() - outs.size() + ins.size() < size) {
                    ins.add(p);
                }
            }
            if (outs.isEmpty() && ins.isEmpty()) {
                travel();
                return;
            }
            for (int p : outs) {
                r.out[p] = time;
            }
            for (int p : ins) {
                r.in[p] = time;
            }
            inside.removeAll(outs);
            inside.addAll(ins);
            waiting.removeAll(ins);
            standing = doors;
            r.stops[number]++;
        }

        void travel() {
            Set<Integer> goals = goals();
            if (goals.isEmpty()) {
                heading = 0;
                if (floor != park) {
                    goTo(floor < park ? floor + 1 : floor - 1);
                }
                return;
            }
            boolean keeps = false;
            int nearest = NONE;
            for (int g = floors - 1; g >= 0; g--) {
                if (goals.contains(g)) {
                    keeps |= heading > 0 && g > floor || heading < 0 && g < floor;
                    nearest = nearest == NONE || Math.abs(g - floor) < Math.abs(nearest - floor) ? g : nearest;
                }
            }
            if (!keeps) {
                heading = nearest > floor ? 1 : -1;
            }
            goTo(floor + heading);
        }

        void goTo(int to) {
            r.passed[number][Math.min(to, floor)]++;
            floor = to;
        }
    }

    private Ran ride(int way) {
        Ran r = new Ran();
        r.who = new ArrayList<>(persons);
        r.car = filled(persons.size());
        r.in = filled(persons.size());
        r.out = filled(persons.size());
        if (persons.isEmpty()) {
            return r;
        }
        List<Car> all = new ArrayList<>();
        for (int i = 0; i < cars; i++) {
            all.add(new Car(i, r));
        }
        for (int time = 0; time < 900; time++) {
            boolean burns = fire != NONE && time >= fire;
            for (int p = 0; p < persons.size() && !burns; p++) {
                if (persons.get(p).time() == time) {
                    int car = way == NONE ? 0 : way >> p & 1;
                    if (way == NONE && cars == 2) {
                        int zero = all.get(0).rate(persons.get(p), time);
                        car = all.get(1).rate(persons.get(p), time) < zero ? 1 : 0;
                    }
                    r.car[p] = car;
                    all.get(car).waiting.add(p);
                }
            }
            for (Hold h : holds) {
                if (h.time() == time && h.car() < cars && all.get(h.car()).standing > 0) {
                    all.get(h.car()).standing += h.n();
                }
            }
            boolean home = burns;
            for (Car c : all) {
                c.act(time);
                home &= c.floor == 0 && c.inside.isEmpty();
            }
            boolean out = true;
            for (int t : r.out) {
                out &= t != NONE;
            }
            if (out || home) {
                r.over = time;
                return r;
            }
        }
        r.over = NONE;
        return r;
    }

    private static int[] filled(int length) {
        int[] row = new int[length];
        java.util.Arrays.fill(row, NONE);
        return row;
    }

    int run() {
        return ride(NONE).over;
    }

    int rode(int person, int what) {
        Ran ran = ride(NONE);
        if (person < 0 || person >= ran.who.size()) {
            return NONE;
        }
        return switch (what) {
            case 0 -> ran.car[person];
            case 1 -> ran.in[person];
            case 2 -> ran.out[person];
            case 3 -> ran.wait(person);
            default -> NONE;
        };
    }

    private static int sum(Ran r) {
        int sum = 0;
        for (int p = 0; p < r.who.size(); p++) {
            sum += r.wait(p);
        }
        return sum;
    }

    private static int greatest(Ran r) {
        int most = 0;
        for (int p = 0; p < r.who.size(); p++) {
            most = Math.max(most, r.wait(p));
        }
        return most;
    }

    int waits(int what) {
        Ran ran = ride(NONE);
        if (ran.who.isEmpty()) {
            return NONE;
        }
        int firstOne = 0;
        while (ran.wait(firstOne) != greatest(ran)) {
            firstOne++;
        }
        int outs = 0;
        for (int t : ran.out) {
            outs += t == NONE ? 0 : 1;
        }
        return switch (what) {
            case 0 -> sum(ran);
            case 1 -> greatest(ran);
            case 2 -> firstOne;
            case 3 -> outs;
            default -> NONE;
        };
    }

    int moved(int car, int part) {
        return car < 0 || car >= cars || part < 0 || part > floors - 2 ? NONE : ride(NONE).passed[car][part];
    }

    int stopped(int car) {
        return car < 0 || car >= cars ? NONE : ride(NONE).stops[car];
    }

    int best(int aim, int what) {
        if (aim < 0 || aim > 2 || what < 0 || what > 1 || persons.isEmpty() || persons.size() > 8) {
            return NONE;
        }
        int least = NONE;
        int leastWay = NONE;
        for (int way = 0; way < (cars == 1 ? 1 : 1 << persons.size()); way++) {
            Ran r = ride(way);
            int amount = aim == 0 ? sum(r) : aim == 1 ? greatest(r) : r.over;
            if (amount != NONE && (least == NONE || amount < least)) {
                least = amount;
                leastWay = way;
            }
        }
        return what == 0 ? least : leastWay;
    }

    // ---- rope

    boolean trip(int from, int to, int n) {
        if (from < 0 || from >= floors || to < 0 || to >= floors || from == to || n < 1 || n > 9999
            || trips.size() == 40) {
            return false;
        }
        trips.add(new Trip(from, to, n));
        return true;
    }

    boolean gauge(int what, int n) {
        int[] most = {50, 999999, 9999};
        if (what < 0 || what > 2 || n < (what == 0 ? 0 : 1) || n > most[what]) {
            return false;
        }
        slip = what == 0 ? n : slip;
        life = what == 1 ? n : life;
        days = what == 2 ? n : days;
        return true;
    }

    private static boolean passes(Trip t, int part) {
        return Math.min(t.from(), t.to()) <= part && part + 1 <= Math.max(t.from(), t.to());
    }

    private int least(int part) {
        int sum = 0;
        for (Trip t : trips) {
            sum += passes(t, part) ? t.n() - t.n() * slip / 100 : 0;
        }
        return sum;
    }

    private int most(int part) {
        int sum = 0;
        for (Trip t : trips) {
            sum += passes(t, part) ? t.n() + t.n() * slip / 100 : 0;
        }
        return sum;
    }

    int rope(int part, int what) {
        if (part < 0 || part > floors - 2 || what < 0 || what > 2) {
            return NONE;
        }
        return what == 0 ? least(part) : what == 1 ? most(part)
            : least(part) >= life ? 2 : most(part) >= life ? 1 : 0;
    }

    /** The lines are tried at both ends of their true numbers, one after the other, all of them. */
    private boolean leads(int part, boolean must) {
        int n = trips.size();
        if (n > 10) {
            return leadsByPairs(part, must);
        }
        boolean some = false;
        boolean all = true;
        for (int ends = 0; ends < 1 << n; ends++) {
            int[] bends = new int[floors - 1];
            for (int i = 0; i < n; i++) {
                Trip t = trips.get(i);
                int cut = t.n() * slip / 100;
                for (int s = 0; s < floors - 1; s++) {
                    bends[s] += passes(t, s) ? t.n() + ((ends >> i & 1) == 0 ? -cut : cut) : 0;
                }
            }
            boolean leads = true;
            for (int b : bends) {
                leads &= bends[part] >= b;
            }
            some |= leads;
            all &= leads;
        }
        return must ? all : some;
    }

    private boolean leadsByPairs(int part, boolean must) {
        for (int other = 0; other < floors - 1; other++) {
            int gap = 0;
            for (Trip t : trips) {
                int cut = t.n() * slip / 100;
                if (passes(t, part) && !passes(t, other)) {
                    gap += must ? t.n() - cut : t.n() + cut;
                } else if (!passes(t, part) && passes(t, other)) {
                    gap -= must ? t.n() + cut : t.n() - cut;
                }
            }
            if (gap < 0) {
                return false;
            }
        }
        return true;
    }

    int first(int what) {
        if (what < 0 || what > 1) {
            return NONE;
        }
        int bits = 0;
        for (int part = 0; part < floors - 1; part++) {
            bits |= leads(part, what == 1) ? 1 << part : 0;
        }
        return bits;
    }

    long lasts(int part, int what) {
        if (part < 0 || part > floors - 2 || what < 0 || what > 1) {
            return NONE;
        }
        long bends = what == 0 ? most(part) : least(part);
        return bends == 0 ? NONE : life <= bends ? 0 : (life - bends) * days / bends;
    }

    int count(int what) {
        return switch (what) {
            case 0 -> floors;
            case 1 -> nevers.size();
            case 2 -> reached().size();
            case 3 -> cars;
            case 4 -> persons.size();
            case 5 -> holds.size();
            case 6 -> trips.size();
            case 7 -> tape.length();
            default -> NONE;
        };
    }
}
