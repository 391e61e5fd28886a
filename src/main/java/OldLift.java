import java.util.Arrays;
import java.util.NoSuchElementException;

/** An old lift: its relays, the guesses of those stuck in it, its cars and their persons, its rope. */
public final class OldLift {
    /** None. */
    public static final int NONE = -1;

    private static final int FLOORS_LEAST = 2;
    private static final int FLOORS_MOST = 6;
    private static final int FLOORS_AT_FIRST = 4;
    private static final int TAPE_MOST = 1000;
    private static final int WORD_MOST = 8;
    private static final int DIGITS_MOST = 4;

    // The kinds of tokens; those of words stand in the order of WORDS, those of signs in that of SIGNS.
    private static final int END = 0;
    private static final int WRONG = 1;
    private static final int NUMBER = 2;
    private static final int LETTER = 3;
    private static final int OPENS = 4;
    private static final int CLOSES = 5;
    private static final int LESS = 6;
    private static final int SAME = 7;
    private static final int PLUS = 8;
    private static final int MINUS = 9;
    private static final int TIMES = 10;
    private static final int SEMICOLON = 11;
    private static final int RELAY = 12;
    private static final int UP = 13;
    private static final int DOWN = 14;
    private static final int DOOR = 15;
    private static final int LAMP = 16;
    private static final int NEVER = 17;
    private static final int NOT = 18;
    private static final int AND = 19;
    private static final int OR = 20;
    private static final int CALL = 21;
    private static final int AT = 22;
    private static final int OPEN = 23;
    private static final int ANY = 24;
    private static final int FAR = 25;
    private static final int TIME = 34;
    private static final String SIGNS = "()<=+-*;";
    private static final String WORDS =
        "relay up down door lamp never not and or call at open any far load stops toward idle floor from to car time ";

    private static final int FAULT_PLACE = 1;
    private static final int FAULT_TWICE = 3;
    private static final int FAULT_NUMBER = 4;
    private static final int FAULT_MANY = 5;
    private static final int DEPTH_MOST = 5;

    // Where the lines of a circuit lie in its code; a rule is line 0 of a code of its own.
    private static final int RELAYS = 8;
    private static final int LAMPS = 8;
    private static final int NEVERS = 6;
    private static final int LINE_UP = 8;
    private static final int LINE_DOWN = 9;
    private static final int LINE_DOOR = 10;
    private static final int LINE_LAMP = 11;
    private static final int LINE_NEVER = 19;
    private static final int LINES = 25;
    private static final int LINE_RULE = 0;

    // An op is the kind of its token, and its argument above these bits.
    private static final int OP_BITS = 6;
    private static final int OP_KIND = 63;
    private static final int STACK = 32;
    private static final int RULE_FACTS = 10;

    // The facts of a circuit as bits: relays lowest, then call N, at N, open, any.
    private static final int BIT_CALL = 8;
    private static final int BIT_AT = 14;
    private static final int BIT_OPEN = 20;
    private static final int BIT_ANY = 21;

    // A state as bits: relays lowest, then the floor, then the door; a bump is told beside it.
    private static final int RELAY_BITS = 255;
    private static final int FLOOR_SHIFT = 8;
    private static final int FLOOR_BITS = 7;
    private static final int STATE_OPEN = 2048;
    private static final int STATE_CODES = 4096;
    private static final int BUMPED = 4096;
    private static final int STATES_MOST = 3072;
    private static final int CHOICES = 7;
    private static final int LAMPS_MOST = 255;

    private static final int PATIENCE_MOST = 60;
    private static final int TOO_LONG = 1000;
    private static final int UNKNOWN = -2;
    private static final int TESTS_MOST = 3;

    private static final int CARS_MOST = 2;
    private static final int PERSONS_MOST = 24;
    private static final int COMING_LAST = 300;
    private static final int HOLDS_MOST = 8;
    private static final int TIME_END = 900;
    private static final int BEST_PERSONS = 8;
    private static final int AIMS = 3;

    private static final int TRIPS_MOST = 40;

    private final Tape tape = new Tape();
    private final Parser parser = new Parser(tape);
    private final Machine machine = new Machine();
    private final Atlas atlas = new Atlas(machine);
    private final Guess guess = new Guess(atlas);
    private final Plan plan = new Plan();
    private final Trial ride = new Trial(plan);
    private final Choice choice = new Choice(plan);
    private final Rope cable = new Rope();

    public OldLift() {
        startHouse(FLOORS_AT_FIRST);
    }

    public boolean floors(int n) {
        if (n < FLOORS_LEAST || n > FLOORS_MOST) {
            return false;
        }
        startHouse(n);
        return true;
    }

    public int feed(long a, long b, long c) {
        tape.put(a);
        tape.put(b);
        tape.put(c);
        return tape.length;
    }

    public int circuit() {
        int fault = parser.readCircuit(machine.floors);
        if (fault == 0) {
            machine.lines.copy(parser.draft);
            startCircuit();
        }
        return fault;
    }

    public int rule() {
        int fault = parser.readRule();
        if (fault == 0) {
            plan.setRule(parser.draft);
        }
        return fault;
    }

    public int press(int button) {
        return machine.isButton(button) ? machine.tick(button) : NONE;
    }

    public boolean again() {
        machine.restart();
        return true;
    }

    public int look(int what) throws NoSuchElementException {
        switch (what) {
            case 0: return machine.now & RELAY_BITS;
            case 1: return floorOf(machine.now);
            case 2: return doorOf(machine.now);
            case 3: return machine.lampsIn(machine.now);
            case 4: return machine.bumps;
            case 5: return machine.ticks;
            default: throw new NoSuchElementException();
        }
    }

    public int never(int line, int what) {
        if (line < 0 || line >= machine.lines.nevers || what < 0 || what > 1) {
            return NONE;
        }
        int breaker = atlas.breakerOf(line);
        if (what == 0) {
            return breaker == NONE ? 1 : 0;
        }
        return atlas.rowLength(breaker);
    }

    public int neverRow(int line, int i) {
        if (line < 0 || line >= machine.lines.nevers) {
            return NONE;
        }
        return atlas.rowButton(atlas.breakerOf(line), i);
    }

    public int forgets(int floor, int patience, int what) {
        if (!isFloor(floor) || !isPatience(patience) || what < 0 || what > 1) {
            return NONE;
        }
        int forgetter = atlas.forgetterOf(floor, patience);
        if (what == 0) {
            return forgetter == NONE ? 0 : 1;
        }
        return atlas.rowLength(forgetter);
    }

    public int forgetsRow(int floor, int patience, int i) {
        if (!isFloor(floor) || !isPatience(patience)) {
            return NONE;
        }
        return atlas.rowButton(atlas.forgetterOf(floor, patience), i);
    }

    public int stuck(int lamps) {
        return areLamps(lamps) ? guess.start(lamps) : NONE;
    }

    public int tried(int button, int lamps) {
        if (!guess.begun || !machine.isButton(button) || !areLamps(lamps)) {
            return NONE;
        }
        return guess.follow(1 + button, lamps);
    }

    public int thought(int what) {
        if (!guess.begun || what < 0 || what > 4) {
            return NONE;
        }
        if (what == 0) {
            return guess.size;
        }
        return guess.size == 0 ? NONE : guess.summary(what);
    }

    public int tests(int what) {
        if (!guess.begun || guess.size == 0 || what < 0 || what > 1) {
            return NONE;
        }
        guess.plan();
        return what == 0 ? guess.need : guess.opening;
    }

    public boolean cars(int n, int size, int doors, int park) {
        if (n < 1 || n > CARS_MOST || size < 1 || size > 8 || doors < 0 || doors > 9 || !isFloor(park)) {
            return false;
        }
        plan.setCars(n, size, doors, park);
        return true;
    }

    public int person(int time, int from, int to) {
        if (time < 0 || time > COMING_LAST || !isFloor(from) || !isFloor(to) || from == to) {
            return NONE;
        }
        return plan.addPerson(time, from, to);
    }

    public boolean hold(int time, int car, int n) {
        if (time < 0 || time >= TIME_END || car < 0 || car >= CARS_MOST || n < 1 || n > 60) {
            return false;
        }
        return plan.addHold(time, car, n);
    }

    public boolean fire(int time) {
        if (time < NONE || time >= TIME_END) {
            return false;
        }
        plan.setFire(time);
        return true;
    }

    public boolean nobody() {
        plan.dismiss();
        return true;
    }

    public int run() {
        ride.catchUp();
        return ride.over;
    }

    public int rode(int person, int what) {
        ride.catchUp();
        if (person < 0 || person >= ride.persons) {
            return NONE;
        }
        switch (what) {
            case 0: return ride.given[person];
            case 1: return ride.timeIn[person];
            case 2: return ride.timeOut[person];
            case 3: return ride.wait[person];
            default: return NONE;
        }
    }

    public int waits(int what) {
        ride.catchUp();
        if (ride.persons == 0) {
            return NONE;
        }
        switch (what) {
            case 0: return ride.sumOfWaits();
            case 1: return ride.wait[ride.longestWaiter()];
            case 2: return ride.longestWaiter();
            case 3: return ride.howManyOut();
            default: return NONE;
        }
    }

    public int moved(int car, int part) {
        if (car < 0 || car >= plan.cars || part < 0 || part >= plan.floors - 1) {
            return NONE;
        }
        ride.catchUp();
        return ride.passed[car][part];
    }

    public int stopped(int car) {
        if (car < 0 || car >= plan.cars) {
            return NONE;
        }
        ride.catchUp();
        return ride.stops[car];
    }

    public int best(int aim, int what) {
        if (aim < 0 || aim >= AIMS || what < 0 || what > 1) {
            return NONE;
        }
        if (plan.persons == 0 || plan.persons > BEST_PERSONS) {
            return NONE;
        }
        choice.weighAll();
        return what == 0 ? choice.least[aim] : choice.way[aim];
    }

    public boolean trip(int from, int to, int n) {
        if (!isFloor(from) || !isFloor(to) || from == to || n < 1 || n > 9999) {
            return false;
        }
        return cable.addTrip(from, to, n);
    }

    public boolean gauge(int what, int n) {
        switch (what) {
            case 0: return cable.setSlip(n);
            case 1: return cable.setLife(n);
            case 2: return cable.setDays(n);
            default: return false;
        }
    }

    public int rope(int part, int what) {
        if (part < 0 || part >= machine.floors - 1) {
            return NONE;
        }
        switch (what) {
            case 0: return cable.leastBends(part);
            case 1: return cable.mostBends(part);
            case 2: return cable.worn(part);
            default: return NONE;
        }
    }

    public int first(int what) {
        if (what < 0 || what > 1) {
            return NONE;
        }
        int parts = 0;
        for (int part = 0; part < machine.floors - 1; part++) {
            if (cable.leads(part, machine.floors - 1, what == 0)) {
                parts |= 1 << part;
            }
        }
        return parts;
    }

    public long lasts(int part, int what) {
        if (part < 0 || part >= machine.floors - 1 || what < 0 || what > 1) {
            return NONE;
        }
        return cable.daysLeft(what == 0 ? cable.mostBends(part) : cable.leastBends(part));
    }

    public int count(int what) {
        switch (what) {
            case 0: return machine.floors;
            case 1: return machine.lines.nevers;
            case 2: return atlas.howMany();
            case 3: return plan.cars;
            case 4: return plan.persons;
            case 5: return plan.holds;
            case 6: return cable.lines;
            case 7: return tape.length;
            default: return NONE;
        }
    }

    private void startHouse(int n) {
        machine.floors = n;
        machine.lines.clear();
        startCircuit();
        plan.startHouse(n);
        cable.clear();
    }

    private void startCircuit() {
        machine.restart();
        atlas.forget();
        guess.forget();
    }

    private boolean isFloor(int floor) {
        return floor >= 0 && floor < machine.floors;
    }

    private static boolean isPatience(int patience) {
        return patience >= 1 && patience <= PATIENCE_MOST;
    }

    private static boolean areLamps(int lamps) {
        return lamps >= 0 && lamps <= LAMPS_MOST;
    }

    private static int floorOf(int state) {
        return state >> FLOOR_SHIFT & FLOOR_BITS;
    }

    private static int doorOf(int state) {
        return (state & STATE_OPEN) != 0 ? 1 : 0;
    }

    /** The signs that were fed and not yet read. */
    private static final class Tape {
        final char[] signs = new char[TAPE_MOST];
        int length;

        void put(long eight) {
            for (int shift = 56; shift >= 0; shift -= 8) {
                int sign = (int) (eight >> shift) & 255;
                boolean fits = sign == 10 || sign >= 32 && sign <= 126;
                if (fits && length < signs.length) {
                    signs[length] = (char) sign;
                    length++;
                }
            }
        }
    }

    /** The tape cut into tokens, the end being the last one. */
    private static final class Tokens {
        final int[] kind = new int[TAPE_MOST + 1];
        final int[] value = new int[TAPE_MOST + 1];
        final int[] place = new int[TAPE_MOST + 1];
        private final Tape tape;
        private int size;

        Tokens(Tape tape) {
            this.tape = tape;
        }

        /** What reads the tape takes it: it is empty then. */
        void take() {
            size = 0;
            int at = 0;
            for (int n = 0; n < TAPE_MOST && at < tape.length; n++) {
                at = takeOne(at);
            }
            add(END, 0, tape.length);
            tape.length = 0;
        }

        private void add(int newKind, int newValue, int newPlace) {
            if (size < kind.length) {
                kind[size] = newKind;
                value[size] = newValue;
                place[size] = newPlace;
                size++;
            }
        }

        private int takeOne(int at) {
            char sign = tape.signs[at];
            if (sign == ' ' || sign == 10) {
                return at + 1;
            }
            if (sign >= 'a' && sign <= 'z') {
                return takeWord(at, endOfRun(at, 'a', 'z'));
            }
            if (sign >= '0' && sign <= '9') {
                return takeNumber(at, endOfRun(at, '0', '9'));
            }
            int known = SIGNS.indexOf(sign);
            add(known < 0 ? WRONG : OPENS + known, 0, at);
            return at + 1;
        }

        private int endOfRun(int from, char low, char high) {
            int at = from;
            while (at < tape.length && tape.signs[at] >= low && tape.signs[at] <= high) {
                at++;
            }
            return at;
        }

        private int takeNumber(int from, int to) {
            int number = 0;
            for (int i = from; i < to && i < from + DIGITS_MOST; i++) {
                number = number * 10 + tape.signs[i] - '0';
            }
            add(to - from > DIGITS_MOST ? WRONG : NUMBER, number, from);
            return to;
        }

        private int takeWord(int from, int to) {
            char sign = tape.signs[from];
            if (to - from == 1 && sign <= 'h') {
                add(LETTER, sign - 'a', from);
            } else {
                add(to - from > WORD_MOST ? WRONG : wordKind(from, to), 0, from);
            }
            return to;
        }

        private int wordKind(int from, int to) {
            int kindNow = RELAY;
            int at = from;
            boolean same = true;
            for (int i = 0; i < WORDS.length(); i++) {
                char sign = WORDS.charAt(i);
                if (sign == ' ') {
                    if (same && at == to) {
                        return kindNow;
                    }
                    kindNow++;
                    at = from;
                    same = true;
                } else if (same && at < to && tape.signs[at] == sign) {
                    at++;
                } else {
                    same = false;
                }
            }
            return WRONG;
        }
    }

    /** Lines as ops on a stack, each behind what it works on. */
    private static final class Code {
        final int[] facts = new int[RULE_FACTS];
        int nevers;
        private final int[] ops = new int[TAPE_MOST];
        private final int[] begin = new int[LINES];
        private final int[] end = new int[LINES];
        private final int[] stack = new int[STACK];
        private int size;

        void clear() {
            Arrays.fill(begin, 0);
            Arrays.fill(end, 0);
            size = 0;
            nevers = 0;
        }

        void copy(Code other) {
            System.arraycopy(other.ops, 0, ops, 0, other.size);
            System.arraycopy(other.begin, 0, begin, 0, LINES);
            System.arraycopy(other.end, 0, end, 0, LINES);
            size = other.size;
            nevers = other.nevers;
        }

        void add(int kind, int argument) {
            if (size < ops.length) {
                ops[size] = kind | argument << OP_BITS;
                size++;
            }
        }

        void beginLine(int line) {
            begin[line] = size;
        }

        void endLine(int line) {
            end[line] = size;
        }

        boolean isTold(int line) {
            return end[line] > begin[line];
        }

        /** 0 for a line that was not told. */
        int value(int line, int bits) {
            int top = 0;
            int last = end[line];
            for (int i = begin[line]; i < last; i++) {
                int kind = ops[i] & OP_KIND;
                int argument = ops[i] >> OP_BITS;
                if (kind == NUMBER || kind == LETTER || kind == FAR) {
                    if (top >= STACK) {
                        return 0;
                    }
                    stack[top] = leaf(kind, argument, bits);
                    top++;
                } else if (kind == NOT) {
                    if (top < 1) {
                        return 0;
                    }
                    stack[top - 1] = stack[top - 1] == 0 ? 1 : 0;
                } else {
                    if (top < 2) {
                        return 0;
                    }
                    top--;
                    stack[top - 1] = joined(kind, stack[top - 1], stack[top]);
                }
            }
            return top == 1 ? stack[0] : 0;
        }

        private int leaf(int kind, int argument, int bits) {
            if (kind == NUMBER) {
                return argument;
            }
            if (kind == LETTER) {
                return bits >> argument & 1;
            }
            return argument >= 0 && argument < facts.length ? facts[argument] : 0;
        }

        private static int joined(int kind, int left, int right) {
            switch (kind) {
                case AND: return left != 0 && right != 0 ? 1 : 0;
                case OR: return left != 0 || right != 0 ? 1 : 0;
                case LESS: return left < right ? 1 : 0;
                case SAME: return left == right ? 1 : 0;
                case PLUS: return left + right;
                case MINUS: return left - right;
                default: return left * right;
            }
        }
    }

    /** Reads the tape into a draft, up to the first token that is wrong. */
    private static final class Parser {
        final Code draft = new Code();
        private final Tokens tokens;
        private int at;
        private int kind;
        private int value;
        private int fault;
        private int floors;
        private boolean forRule;

        Parser(Tape tape) {
            tokens = new Tokens(tape);
        }

        int readCircuit(int houseFloors) {
            start(false, houseFloors);
            for (int n = 0; n < TAPE_MOST && fault == 0 && kind != END; n++) {
                circuitLine();
            }
            return fault;
        }

        /** Without any token the rule is an empty one: the draft has no line then. */
        int readRule() {
            start(true, 0);
            if (kind == END) {
                return 0;
            }
            draft.beginLine(LINE_RULE);
            expression(0, 0);
            draft.endLine(LINE_RULE);
            expect(END);
            return fault;
        }

        private void start(boolean rule, int houseFloors) {
            tokens.take();
            draft.clear();
            forRule = rule;
            floors = houseFloors;
            fault = 0;
            at = NONE;
            kind = WRONG;
            advance();
        }

        // Behind the end no token is read: the end stays the one there is.
        private void advance() {
            if (kind != END && at + 1 < tokens.kind.length) {
                at++;
                kind = tokens.kind[at];
                value = tokens.value[at];
            }
        }

        private void blame(int faultKind) {
            if (fault == 0 && at >= 0) {
                fault = faultKind + 16 * tokens.place[at];
            }
        }

        private void expect(int wanted) {
            if (fault != 0) {
                return;
            }
            if (kind == wanted) {
                advance();
            } else {
                blame(FAULT_PLACE);
            }
        }

        private void circuitLine() {
            boolean isNever = kind == NEVER;
            int line = lineTold();
            if (fault != 0) {
                return;
            }
            advance();
            if (!isNever) {
                expect(SAME);
            }
            draft.beginLine(line);
            expression(0, 0);
            draft.endLine(line);
            expect(SEMICOLON);
        }

        /** Stands at the token that tells the line last; a fault is blamed there. */
        private int lineTold() {
            int head = kind;
            switch (head) {
                case RELAY:
                    advance();
                    return kind == LETTER ? once(value) : refused(FAULT_PLACE);
                case UP:
                case DOWN:
                case DOOR:
                    return once(LINE_UP + head - UP);
                case LAMP:
                    advance();
                    if (kind != NUMBER) {
                        return refused(FAULT_PLACE);
                    }
                    return value < LAMPS ? once(LINE_LAMP + value) : refused(FAULT_NUMBER);
                case NEVER:
                    if (draft.nevers >= NEVERS) {
                        return refused(FAULT_MANY);
                    }
                    draft.nevers++;
                    return LINE_NEVER + draft.nevers - 1;
                default:
                    return refused(FAULT_PLACE);
            }
        }

        private int once(int line) {
            return draft.isTold(line) ? refused(FAULT_TWICE) : line;
        }

        private int refused(int faultKind) {
            blame(faultKind);
            return 0;
        }

        /** Levels from the loosest: and or, then < =, then + -, then *. */
        private void expression(int level, int depth) {
            if (level > 3) {
                part(depth);
                return;
            }
            expression(level + 1, depth);
            for (int n = 0; n < TAPE_MOST && fault == 0 && levelOf(kind) == level; n++) {
                int operator = kind;
                advance();
                expression(level + 1, depth);
                draft.add(operator, 0);
                if (level == 1) {
                    return;
                }
            }
        }

        private static int levelOf(int kind) {
            switch (kind) {
                case AND:
                case OR:
                    return 0;
                case LESS:
                case SAME:
                    return 1;
                case PLUS:
                case MINUS:
                    return 2;
                case TIMES:
                    return 3;
                default:
                    return NONE;
            }
        }

        private void part(int depth) {
            if (fault != 0) {
                return;
            }
            int head = kind;
            if (!beginsPart(head)) {
                blame(FAULT_PLACE);
            } else if (depth >= DEPTH_MOST) {
                blame(FAULT_MANY);
            } else if (head == NOT) {
                advance();
                part(depth + 1);
                draft.add(NOT, 0);
            } else if (head == OPENS) {
                advance();
                expression(0, depth + 1);
                expect(CLOSES);
            } else if (head == NUMBER) {
                draft.add(NUMBER, value);
                advance();
            } else {
                fact(head);
            }
        }

        private boolean beginsPart(int head) {
            if (head == NUMBER || head == NOT || head == OPENS) {
                return true;
            }
            if (forRule) {
                return head >= FAR && head <= TIME;
            }
            return head == LETTER || head >= CALL && head <= ANY;
        }

        private void fact(int head) {
            switch (head) {
                case LETTER:
                    draft.add(LETTER, value);
                    break;
                case CALL:
                    floorFact(BIT_CALL);
                    break;
                case AT:
                    floorFact(BIT_AT);
                    break;
                case OPEN:
                    draft.add(LETTER, BIT_OPEN);
                    break;
                case ANY:
                    draft.add(LETTER, BIT_ANY);
                    break;
                default:
                    draft.add(FAR, head - FAR);
                    break;
            }
            if (fault == 0) {
                advance();
            }
        }

        private void floorFact(int lowest) {
            advance();
            if (kind != NUMBER) {
                blame(FAULT_PLACE);
            } else if (value >= floors) {
                blame(FAULT_NUMBER);
            } else {
                draft.add(LETTER, lowest + value);
            }
        }
    }

    /** The circuit and the car that it drives. */
    private static final class Machine {
        final Code lines = new Code();
        int floors;
        int now;
        int bumps;
        int ticks;

        void restart() {
            now = 0;
            bumps = 0;
            ticks = 0;
        }

        boolean isButton(int button) {
            return button >= NONE && button < floors;
        }

        int tick(int button) {
            int behind = step(now, button);
            if ((behind & BUMPED) != 0) {
                bumps++;
            }
            ticks++;
            now = behind & ~BUMPED;
            return lampsIn(now);
        }

        /** The state behind a tick, with BUMPED beside it if the car was held by the house's end. */
        int step(int state, int button) {
            int before = factsOf(state, button);
            int relays = 0;
            for (int i = 0; i < RELAYS; i++) {
                if (lines.value(i, before) != 0) {
                    relays |= 1 << i;
                }
            }
            int behind = before & ~RELAY_BITS | relays;
            boolean door = lines.value(LINE_DOOR, behind) != 0;
            int rest = state & ~RELAY_BITS | relays;
            if ((state & STATE_OPEN) != 0) {
                return door ? rest : rest & ~STATE_OPEN;
            }
            boolean up = lines.value(LINE_UP, behind) != 0;
            boolean down = lines.value(LINE_DOWN, behind) != 0;
            if (up != down) {
                return shifted(rest, floorOf(state) + (up ? 1 : -1));
            }
            return door ? rest | STATE_OPEN : rest;
        }

        private int shifted(int state, int floor) {
            if (floor < 0 || floor >= floors) {
                return state | BUMPED;
            }
            return state & RELAY_BITS | floor << FLOOR_SHIFT;
        }

        private static int factsOf(int state, int button) {
            int facts = state & RELAY_BITS | 1 << BIT_AT + floorOf(state) | doorOf(state) << BIT_OPEN;
            return button == NONE ? facts : facts | 1 << BIT_CALL + button | 1 << BIT_ANY;
        }

        int lampsIn(int state) {
            int facts = factsOf(state, NONE);
            int lamps = 0;
            for (int i = 0; i < LAMPS; i++) {
                if (lines.value(LINE_LAMP + i, facts) != 0) {
                    lamps |= 1 << i;
                }
            }
            return lamps;
        }

        boolean breaksNever(int state, int line) {
            return lines.value(LINE_NEVER + line, factsOf(state, NONE)) != 0;
        }
    }

    /**
     * The reached states, numbered as a search in breadth with the buttons in order finds them:
     * so the first one of a sort has the fewest buttons, and of as many the first row.
     */
    private static final class Atlas {
        private final Machine machine;
        private final int[] breaker = new int[NEVERS];
        private final int[][] forgetter = new int[FLOORS_MOST][PATIENCE_MOST + 1];
        private final int[] state = new int[STATES_MOST];
        private final int[] number = new int[STATE_CODES];
        private final int[] parent = new int[STATES_MOST];
        private final int[] button = new int[STATES_MOST];
        private final int[] depth = new int[STATES_MOST];
        private final int[] lamps = new int[STATES_MOST];
        private final int[] next = new int[STATES_MOST * CHOICES];
        private final int[] patienceFrom = new int[STATES_MOST];
        private final int[] path = new int[STATES_MOST];
        private boolean known;
        private int size;

        Atlas(Machine machine) {
            this.machine = machine;
        }

        void forget() {
            known = false;
        }

        int howMany() {
            explore();
            return size;
        }

        int stateAt(int i) {
            return i >= 0 && i < size ? state[i] : 0;
        }

        int lampsAt(int i) {
            return i >= 0 && i < size ? lamps[i] : 0;
        }

        /** Choice 0 is no button, 1 + n that of floor n. */
        int behind(int i, int pressed) {
            if (i < 0 || i >= size || pressed < 0 || pressed >= CHOICES) {
                return 0;
            }
            return next[i * CHOICES + pressed];
        }

        int choices() {
            return 1 + machine.floors;
        }

        private void explore() {
            if (known) {
                return;
            }
            Arrays.fill(number, NONE);
            Arrays.fill(breaker, UNKNOWN);
            for (int floor = 0; floor < FLOORS_MOST; floor++) {
                forgetter[floor][0] = UNKNOWN;
            }
            size = 0;
            find(0, NONE, 0);
            for (int i = 0; i < size && i < STATES_MOST; i++) {
                for (int pressed = 0; pressed <= machine.floors; pressed++) {
                    int behind = machine.step(state[i], pressed - 1) & ~BUMPED;
                    next[i * CHOICES + pressed] = find(behind, i, pressed);
                }
            }
            known = true;
        }

        private int find(int code, int from, int pressed) {
            if (code < 0 || code >= number.length) {
                return 0;
            }
            if (number[code] == NONE && size < STATES_MOST) {
                state[size] = code;
                parent[size] = from;
                button[size] = pressed;
                depth[size] = from < 0 ? 0 : depth[from] + 1;
                lamps[size] = machine.lampsIn(code);
                number[code] = size;
                size++;
            }
            return Math.max(number[code], 0);
        }

        int rowLength(int i) {
            return i >= 0 && i < size ? depth[i] : NONE;
        }

        int rowButton(int i, int place) {
            if (place < 0 || place >= rowLength(i)) {
                return NONE;
            }
            int at = i;
            for (int n = depth[i] - 1; n > place && parent[at] >= 0; n--) {
                at = parent[at];
            }
            return button[at];
        }

        /** The first state in which a never line is not 0. */
        int breakerOf(int line) {
            explore();
            if (line < 0 || line >= NEVERS) {
                return NONE;
            }
            if (breaker[line] == UNKNOWN) {
                breaker[line] = NONE;
                for (int i = 0; i < size && breaker[line] == NONE; i++) {
                    if (machine.breaksNever(state[i], line)) {
                        breaker[line] = i;
                    }
                }
            }
            return breaker[line];
        }

        /** The first state from which a call of the floor is not served within so many ticks. */
        int forgetterOf(int floor, int patience) {
            explore();
            if (floor < 0 || floor >= FLOORS_MOST || patience < 1 || patience > PATIENCE_MOST) {
                return NONE;
            }
            if (forgetter[floor][0] == UNKNOWN) {
                forgetter[floor][0] = NONE;
                findForgetters(floor);
            }
            return forgetter[floor][patience];
        }

        private void findForgetters(int floor) {
            Arrays.fill(patienceFrom, UNKNOWN);
            int patience = 1;
            for (int i = 0; i < size && patience <= PATIENCE_MOST; i++) {
                int needed = 1 + ticksUntilOpen(behind(i, 1 + floor), floor);
                for (; patience <= PATIENCE_MOST && patience < needed; patience++) {
                    forgetter[floor][patience] = i;
                }
            }
            for (; patience <= PATIENCE_MOST; patience++) {
                forgetter[floor][patience] = NONE;
            }
        }

        /** How many ticks without a button until the door is open at the floor (0: it is). */
        private int ticksUntilOpen(int from, int floor) {
            int length = 0;
            int at = from;
            for (; length < size && patienceFrom[at] == UNKNOWN && !isOpenAt(at, floor); length++) {
                // A walk that comes back to itself finds this, which is true then.
                patienceFrom[at] = TOO_LONG;
                path[length] = at;
                at = behind(at, 0);
            }
            if (isOpenAt(at, floor)) {
                patienceFrom[at] = 0;
            }
            int ticks = patienceFrom[at];
            for (int n = length - 1; n >= 0; n--) {
                ticks = Math.min(ticks + 1, TOO_LONG);
                patienceFrom[path[n]] = ticks;
            }
            return ticks;
        }

        private boolean isOpenAt(int i, int floor) {
            return doorOf(state[i]) == 1 && floorOf(state[i]) == floor;
        }
    }

    /** What those in a stuck car think, by the lamps alone. */
    private static final class Guess {
        boolean begun;
        int size;
        int need;
        int opening;
        private final Atlas atlas;
        private final int[] lampMark = new int[LAMPS_MOST + 1];
        private final int[] lampNote = new int[LAMPS_MOST + 1];
        private final int[] held = new int[STATES_MOST];
        private final int[] mark = new int[STATES_MOST];
        private final int[] image = new int[STATES_MOST];
        private final int[][] members = new int[TESTS_MOST - 1][STATES_MOST];
        private final int[][] ends = new int[TESTS_MOST - 1][LAMPS_MOST + 1];
        private boolean planned;
        private int stamp;

        Guess(Atlas atlas) {
            this.atlas = atlas;
        }

        void forget() {
            begun = false;
            size = 0;
            planned = false;
        }

        int start(int lamps) {
            begun = true;
            planned = false;
            size = 0;
            int all = atlas.howMany();
            for (int i = 0; i < all && i < STATES_MOST; i++) {
                if (atlas.lampsAt(i) == lamps) {
                    held[size] = i;
                    size++;
                }
            }
            return size;
        }

        int follow(int pressed, int lamps) {
            planned = false;
            stamp++;
            int kept = 0;
            for (int i = 0; i < size; i++) {
                int behind = atlas.behind(held[i], pressed);
                if (mark[behind] != stamp && atlas.lampsAt(behind) == lamps) {
                    mark[behind] = stamp;
                    held[kept] = behind;
                    kept++;
                }
            }
            size = kept;
            return size;
        }

        /** What 1: relays on in all, 2: in some, 3: floors, 4: the door. */
        int summary(int what) {
            int inAll = RELAY_BITS;
            int inSome = 0;
            int floors = 0;
            int doors = 0;
            for (int i = 0; i < size; i++) {
                int state = atlas.stateAt(held[i]);
                inAll &= state;
                inSome |= state & RELAY_BITS;
                floors |= 1 << floorOf(state);
                doors |= 1 << doorOf(state);
            }
            switch (what) {
                case 1: return inAll;
                case 2: return inSome;
                case 3: return floors;
                default: return doors - 1;
            }
        }

        /** Finds the fewest tests and the button to begin with, if they are not known yet. */
        void plan() {
            if (planned) {
                return;
            }
            planned = true;
            need = oneFloor(held, 0, size) ? 0 : NONE;
            opening = NONE;
            for (int ticks = 1; ticks <= TESTS_MOST && need == NONE; ticks++) {
                for (int pressed = 0; pressed < atlas.choices() && need == NONE; pressed++) {
                    if (tells(held, 0, size, ticks, pressed)) {
                        need = ticks;
                        opening = pressed;
                    }
                }
            }
        }

        private boolean oneFloor(int[] row, int from, int to) {
            for (int i = from + 1; i < to; i++) {
                if (floorAt(row[i]) != floorAt(row[from])) {
                    return false;
                }
            }
            return true;
        }

        private int floorAt(int i) {
            return floorOf(atlas.stateAt(i));
        }

        /** Whether so many ticks, this button first, tell the floor whatever the lamps show. */
        private boolean tells(int[] row, int from, int to, int ticks, int pressed) {
            if (ticks <= 1) {
                return tellsAtOnce(row, from, to, pressed);
            }
            int level = ticks - 2;
            if (level >= members.length) {
                return false;
            }
            int groups = split(row, from, to, pressed, level);
            int begin = 0;
            for (int group = 0; group < groups; group++) {
                int end = ends[level][group];
                if (!canTell(members[level], begin, end, ticks - 1)) {
                    return false;
                }
                begin = end;
            }
            return true;
        }

        private boolean canTell(int[] row, int from, int to, int ticks) {
            if (oneFloor(row, from, to)) {
                return true;
            }
            for (int pressed = 0; pressed < atlas.choices(); pressed++) {
                if (tells(row, from, to, ticks, pressed)) {
                    return true;
                }
            }
            return false;
        }

        private boolean tellsAtOnce(int[] row, int from, int to, int pressed) {
            stamp++;
            for (int i = from; i < to; i++) {
                int behind = atlas.behind(row[i], pressed);
                int lamps = atlas.lampsAt(behind);
                if (lampMark[lamps] != stamp) {
                    lampMark[lamps] = stamp;
                    lampNote[lamps] = floorAt(behind);
                } else if (lampNote[lamps] != floorAt(behind)) {
                    return false;
                }
            }
            return true;
        }

        /** Puts the states behind the tick into the level's row, those with the same lamps together. */
        private int split(int[] row, int from, int to, int pressed, int level) {
            stamp++;
            int[] groupEnd = ends[level];
            int groups = 0;
            int found = 0;
            for (int i = from; i < to; i++) {
                int behind = atlas.behind(row[i], pressed);
                if (mark[behind] == stamp) {
                    continue;
                }
                mark[behind] = stamp;
                image[found] = behind;
                found++;
                int lamps = atlas.lampsAt(behind);
                if (lampMark[lamps] != stamp) {
                    lampMark[lamps] = stamp;
                    lampNote[lamps] = groups;
                    groupEnd[groups] = 0;
                    groups++;
                }
                groupEnd[lampNote[lamps]]++;
            }
            sizesToBegins(groupEnd, groups);
            for (int i = 0; i < found; i++) {
                int group = lampNote[atlas.lampsAt(image[i])];
                members[level][groupEnd[group]] = image[i];
                groupEnd[group]++;
            }
            return groups;
        }

        private static void sizesToBegins(int[] row, int length) {
            int begin = 0;
            for (int i = 0; i < length; i++) {
                int size = row[i];
                row[i] = begin;
                begin += size;
            }
        }
    }

    /** All that is told of cars and persons. */
    private static final class Plan {
        final Code rule = new Code();
        final int[] comes = new int[PERSONS_MOST];
        final int[] from = new int[PERSONS_MOST];
        final int[] to = new int[PERSONS_MOST];
        final int[] holdTime = new int[HOLDS_MOST];
        final int[] holdCar = new int[HOLDS_MOST];
        final int[] holdTicks = new int[HOLDS_MOST];
        int floors;
        int cars;
        int room;
        int doors;
        int park;
        int persons;
        int holds;
        int fireTime;
        // Rules are counted apart: the best of all ways does not ask for them.
        int changes;
        private int rulings;

        void startHouse(int n) {
            floors = n;
            rule.clear();
            setCars(1, 4, 1, 0);
            dismiss();
        }

        void setRule(Code told) {
            rule.copy(told);
            rulings++;
        }

        /** Another number whenever anything was told that a run goes by. */
        int tellings() {
            return changes + rulings;
        }

        void setCars(int n, int size, int doorTicks, int parkFloor) {
            cars = n;
            room = size;
            doors = doorTicks;
            park = parkFloor;
            changes++;
        }

        int addPerson(int time, int fromFloor, int toFloor) {
            if (persons >= PERSONS_MOST) {
                return NONE;
            }
            comes[persons] = time;
            from[persons] = fromFloor;
            to[persons] = toFloor;
            persons++;
            changes++;
            return persons - 1;
        }

        boolean addHold(int time, int car, int n) {
            if (holds >= HOLDS_MOST) {
                return false;
            }
            holdTime[holds] = time;
            holdCar[holds] = car;
            holdTicks[holds] = n;
            holds++;
            changes++;
            return true;
        }

        void setFire(int time) {
            fireTime = time;
            changes++;
        }

        void dismiss() {
            persons = 0;
            holds = 0;
            fireTime = NONE;
            changes++;
        }

        boolean burns(int time) {
            return fireTime != NONE && time >= fireTime;
        }

        /** The first time behind this one at which a person comes; NONE: nobody does. */
        int nextComing(int time) {
            int soonest = NONE;
            for (int i = 0; i < persons; i++) {
                if (comes[i] > time && (soonest == NONE || comes[i] < soonest)) {
                    soonest = comes[i];
                }
            }
            return soonest;
        }
    }

    /** A run of the plan, and what is kept of it; sets of persons and of floors are bits. */
    private static final class Trial {
        final int[] given = new int[PERSONS_MOST];
        final int[] timeIn = new int[PERSONS_MOST];
        final int[] timeOut = new int[PERSONS_MOST];
        final int[] wait = new int[PERSONS_MOST];
        final int[] stops = new int[CARS_MOST];
        final int[][] passed = new int[CARS_MOST][FLOORS_MOST - 1];
        int cars;
        int persons;
        int over;
        private final Plan plan;
        private final int[] floor = new int[CARS_MOST];
        private final int[] heading = new int[CARS_MOST];
        private final int[] standing = new int[CARS_MOST];
        private final int[] inside = new int[CARS_MOST];
        private final int[] waiting = new int[CARS_MOST];
        private final int[] fromHere = new int[FLOORS_MOST];
        private final int[] toHere = new int[FLOORS_MOST];
        private int coming;
        private int notOut;
        private int shown = NONE;

        Trial(Plan plan) {
            this.plan = plan;
        }

        /** By all that is told now: a run of it that was made already is the same one. */
        void catchUp() {
            if (shown != plan.tellings()) {
                shown = plan.tellings();
                simulate(NONE);
            }
        }

        /** Way NONE: persons are given by the rule; else bit n tells the car of person n. */
        void simulate(int way) {
            begin();
            for (int time = 0; time < TIME_END && over == NONE; time++) {
                if (!plan.burns(time) && time == coming) {
                    give(time, way);
                    coming = plan.nextComing(time);
                }
                holdDoors(time);
                for (int car = 0; car < cars; car++) {
                    act(car, time);
                }
                if (notOut == 0 || plan.burns(time) && allHome()) {
                    over = time;
                } else if (!plan.burns(time) && allRest()) {
                    time = Math.max(time, nextChange() - 1);
                }
            }
            noteWaits();
        }

        private void begin() {
            cars = plan.cars;
            persons = plan.persons;
            over = persons == 0 ? 0 : NONE;
            notOut = (1 << persons) - 1;
            coming = plan.nextComing(NONE);
            Arrays.fill(stops, 0);
            for (int car = 0; car < CARS_MOST; car++) {
                Arrays.fill(passed[car], 0);
            }
            Arrays.fill(given, NONE);
            Arrays.fill(timeIn, NONE);
            Arrays.fill(timeOut, NONE);
            Arrays.fill(floor, 0);
            Arrays.fill(heading, 0);
            Arrays.fill(standing, 0);
            Arrays.fill(inside, 0);
            Arrays.fill(waiting, 0);
            Arrays.fill(fromHere, 0);
            Arrays.fill(toHere, 0);
            for (int i = 0; i < persons; i++) {
                fromHere[plan.from[i]] |= 1 << i;
                toHere[plan.to[i]] |= 1 << i;
            }
        }

        private void give(int time, int way) {
            for (int i = 0; i < persons; i++) {
                if (plan.comes[i] == time) {
                    int car = way == NONE ? carByRule(i, time) : way >> i & 1;
                    given[i] = car;
                    waiting[car] |= 1 << i;
                }
            }
        }

        private int carByRule(int person, int time) {
            if (cars < CARS_MOST) {
                return 0;
            }
            return ruleOf(1, person, time) < ruleOf(0, person, time) ? 1 : 0;
        }

        private int ruleOf(int car, int person, int time) {
            int goals = goalsOf(car, hasRoom(car));
            int ahead = plan.from[person] - floor[car];
            int[] facts = plan.rule.facts;
            facts[0] = Math.abs(ahead);
            facts[1] = Integer.bitCount(inside[car]);
            facts[2] = Integer.bitCount(goals);
            facts[3] = ahead * heading[car] >= 0 ? 1 : 0;
            facts[4] = goals == 0 ? 1 : 0;
            facts[5] = floor[car];
            facts[6] = plan.from[person];
            facts[7] = plan.to[person];
            facts[8] = car;
            facts[9] = time;
            return plan.rule.value(LINE_RULE, 0);
        }

        private void holdDoors(int time) {
            for (int i = 0; i < plan.holds; i++) {
                int car = plan.holdCar[i];
                if (plan.holdTime[i] == time && standing[car] > 0) {
                    standing[car] += plan.holdTicks[i];
                }
            }
        }

        private void act(int car, int time) {
            if (standing[car] > 0) {
                standing[car]--;
            } else if (plan.burns(time)) {
                flee(car, time);
            } else if (stopsHere(car)) {
                stop(car, time);
            } else {
                go(car);
            }
        }

        private void flee(int car, int time) {
            if (floor[car] > 0) {
                move(car, -1);
            } else {
                letOut(car, inside[car], time);
            }
        }

        private boolean hasRoom(int car) {
            return Integer.bitCount(inside[car]) < plan.room;
        }

        private boolean stopsHere(int car) {
            int here = floor[car];
            return (inside[car] & toHere[here]) != 0 || (waiting[car] & fromHere[here]) != 0 && hasRoom(car);
        }

        private void stop(int car, int time) {
            int here = floor[car];
            letOut(car, inside[car] & toHere[here], time);
            for (int i = 0; i < persons && hasRoom(car); i++) {
                int bit = 1 << i;
                if ((waiting[car] & fromHere[here] & bit) != 0) {
                    waiting[car] &= ~bit;
                    inside[car] |= bit;
                    timeIn[i] = time;
                }
            }
            standing[car] = plan.doors;
            stops[car]++;
        }

        private void letOut(int car, int who, int time) {
            for (int i = 0; i < persons; i++) {
                if ((who >> i & 1) != 0) {
                    timeOut[i] = time;
                }
            }
            inside[car] &= ~who;
            notOut &= ~who;
        }

        private int goalsOf(int car, boolean room) {
            int waiters = room ? waiting[car] : 0;
            int goals = 0;
            for (int i = 0; i < plan.floors; i++) {
                if ((inside[car] & toHere[i] | waiters & fromHere[i]) != 0) {
                    goals |= 1 << i;
                }
            }
            return goals;
        }

        private void go(int car) {
            if ((inside[car] | waiting[car]) == 0) {
                heading[car] = 0;
                move(car, Integer.compare(plan.park, floor[car]));
            } else {
                heading[car] = wayTo(goalsOf(car, hasRoom(car)), floor[car], heading[car]);
                move(car, heading[car]);
            }
        }

        private static int wayTo(int goals, int here, int old) {
            boolean above = goals >> here + 1 != 0;
            boolean below = (goals & (1 << here) - 1) != 0;
            if (old > 0 && above || old < 0 && below) {
                return old;
            }
            for (int far = 1; far < FLOORS_MOST; far++) {
                if ((goals >> here + far & 1) != 0) {
                    return 1;
                }
                if (far <= here && (goals >> here - far & 1) != 0) {
                    return -1;
                }
            }
            return 0;
        }

        private void move(int car, int way) {
            int to = floor[car] + way;
            if (way == 0 || to < 0 || to >= plan.floors) {
                return;
            }
            passed[car][Math.min(to, floor[car])]++;
            floor[car] = to;
        }

        private boolean allHome() {
            for (int car = 0; car < cars; car++) {
                if (inside[car] != 0 || floor[car] != 0) {
                    return false;
                }
            }
            return true;
        }

        private boolean allRest() {
            for (int car = 0; car < cars; car++) {
                boolean busy = (inside[car] | waiting[car] | standing[car] | heading[car]) != 0;
                if (busy || floor[car] != plan.park) {
                    return false;
                }
            }
            return true;
        }

        /** While all rest nothing changes before this time: holds do nothing to a car that does not stand. */
        private int nextChange() {
            int change = coming == NONE ? TIME_END : coming;
            return plan.fireTime == NONE ? change : Math.min(change, plan.fireTime);
        }

        private void noteWaits() {
            for (int i = 0; i < persons; i++) {
                wait[i] = timeIn[i] == NONE ? TIME_END : timeIn[i] - plan.comes[i];
            }
        }

        int sumOfWaits() {
            int sum = 0;
            for (int i = 0; i < persons; i++) {
                sum += wait[i];
            }
            return sum;
        }

        int longestWaiter() {
            int longest = 0;
            for (int i = 1; i < persons; i++) {
                if (wait[i] > wait[longest]) {
                    longest = i;
                }
            }
            return longest;
        }

        int howManyOut() {
            return persons - Integer.bitCount(notOut);
        }
    }

    /** The best ways to give the persons, found anew only when the plan has changed. */
    private static final class Choice {
        final int[] least = new int[AIMS];
        final int[] way = new int[AIMS];
        private final Plan plan;
        private final Trial probe;
        private int weighed = NONE;

        Choice(Plan plan) {
            this.plan = plan;
            probe = new Trial(plan);
        }

        void weighAll() {
            if (weighed == plan.changes || plan.persons > BEST_PERSONS) {
                return;
            }
            weighed = plan.changes;
            Arrays.fill(least, NONE);
            Arrays.fill(way, NONE);
            int ways = plan.cars == CARS_MOST ? 1 << plan.persons : 1;
            for (int i = 0; i < ways; i++) {
                probe.simulate(i);
                weigh(0, probe.sumOfWaits(), i);
                weigh(1, probe.wait[probe.longestWaiter()], i);
                if (probe.over != NONE) {
                    weigh(2, probe.over, i);
                }
            }
        }

        private void weigh(int aim, int amount, int newWay) {
            if (least[aim] == NONE || amount < least[aim]) {
                least[aim] = amount;
                way[aim] = newWay;
            }
        }
    }

    /** The trips that the cam counted, and what they did to the rope. */
    private static final class Rope {
        int lines;
        private final int[] low = new int[TRIPS_MOST];
        private final int[] high = new int[TRIPS_MOST];
        private final int[] counted = new int[TRIPS_MOST];
        private int slip;
        private int life;
        private int days;

        void clear() {
            lines = 0;
            slip = 0;
            life = 1000;
            days = 1;
        }

        boolean addTrip(int from, int to, int n) {
            if (lines >= TRIPS_MOST) {
                return false;
            }
            low[lines] = Math.min(from, to);
            high[lines] = Math.max(from, to);
            counted[lines] = n;
            lines++;
            return true;
        }

        boolean setSlip(int n) {
            boolean fits = n >= 0 && n <= 50;
            slip = fits ? n : slip;
            return fits;
        }

        boolean setLife(int n) {
            boolean fits = n >= 1 && n <= 999999;
            life = fits ? n : life;
            return fits;
        }

        boolean setDays(int n) {
            boolean fits = n >= 1 && n <= 9999;
            days = fits ? n : days;
            return fits;
        }

        private boolean passes(int line, int part) {
            return low[line] <= part && part < high[line];
        }

        private int trueNumber(int line, boolean most) {
            int slipped = counted[line] * slip / 100;
            return most ? counted[line] + slipped : counted[line] - slipped;
        }

        int leastBends(int part) {
            return bends(part, part, false);
        }

        int mostBends(int part) {
            return bends(part, part, true);
        }

        /** With the lines that pass the favoured part at their most (or least), all others the other way. */
        private int bends(int part, int favoured, boolean most) {
            int sum = 0;
            for (int i = 0; i < lines; i++) {
                if (passes(i, part)) {
                    sum += trueNumber(i, passes(i, favoured) == most);
                }
            }
            return sum;
        }

        int worn(int part) {
            if (leastBends(part) >= life) {
                return 2;
            }
            return mostBends(part) >= life ? 1 : 0;
        }

        /**
         * The true numbers that favour (or disfavour) a part most do so against every other part
         * at once, so one look at them tells whether it may (must) have no fewer bends than any.
         */
        boolean leads(int part, int parts, boolean may) {
            int own = bends(part, part, may);
            for (int i = 0; i < parts; i++) {
                if (bends(i, part, may) > own) {
                    return false;
                }
            }
            return true;
        }

        long daysLeft(int bends) {
            if (bends <= 0) {
                return NONE;
            }
            return Math.max(0L, (long) (life - bends) * days / bends);
        }
    }
}
