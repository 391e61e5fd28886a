import java.util.NoSuchElementException;
import java.util.Random;

/** Random runs of at most 512 calls, each answer held against the model's; the seeds are always the same. */
public final class ModelTest {
    private static final int RUNS = 600;
    private static final int NONE = OldLift.NONE;

    private final Random random;
    private final OldLift lift = new OldLift();
    private final Model model = new Model();
    private final int run;
    private int calls;
    private int wrong;

    private ModelTest(int run) {
        this.run = run;
        random = new Random(7919L * run + 17);
    }

    public static void main(String[] args) {
        int from = args.length > 0 ? Integer.parseInt(args[0]) : 0;
        int to = args.length > 1 ? Integer.parseInt(args[1]) : RUNS;
        int wrong = 0;
        long calls = 0;
        for (int run = from; run < to && wrong < 10; run++) {
            ModelTest test = new ModelTest(run);
            test.play();
            wrong += test.wrong;
            calls += test.calls;
        }
        System.out.println("ModelTest: " + calls + " calls, " + wrong + " wrong");
        if (wrong != 0) {
            System.exit(1);
        }
    }

    private void due(String call, long got, long want) {
        calls++;
        if (got != want) {
            wrong++;
            System.out.println("run " + run + ", call " + calls + ": " + call + " answered " + got
                + ", the model says " + want);
        }
    }

    private void due(String call, boolean got, boolean want) {
        due(call, got ? 1 : 0, want ? 1 : 0);
    }

    private void play() {
        int theme = run % 4;
        int length = 100 + random.nextInt(412);
        while (calls < length && wrong == 0) {
            int pick = theme == 3 ? random.nextInt(3) : random.nextInt(12) == 0 ? random.nextInt(3) : theme;
            switch (pick) {
                case 0: circuitCall(); break;
                case 1: carsCall(); break;
                default: ropeCall(); break;
            }
        }
    }

    /** Mostly from low to high, at times just outside, seldom far off. */
    private int pick(int low, int high) {
        int n = random.nextInt(40);
        if (n == 0) {
            return random.nextInt();
        }
        return n == 1 ? low - 1 : n == 2 ? high + 1 : low + random.nextInt(high - low + 1);
    }

    private int aFloor() {
        return pick(0, model.count(0) - 1);
    }

    private void feed(String text) {
        for (int i = 0; i < text.length(); i += 24) {
            long a = Texts.eight(text, i);
            long b = Texts.eight(text, i + 8);
            long c = Texts.eight(text, i + 16);
            due("feed", lift.feed(a, b, c), model.feed(a, b, c));
        }
    }

    private void tellCircuit() {
        String text = Texts.circuit(random, model.count(0));
        int change = random.nextInt(8);
        text = change == 0 ? Texts.broken(random, text) : change == 1 ? Texts.longer(random, text) : text;
        feed(text);
        due("circuit " + text, lift.circuit(), model.circuit());
    }

    private void tellRule() {
        String text = random.nextInt(6) == 0 ? "" : Texts.expression(random, true, 2, 0);
        text = random.nextInt(4) == 0 ? Texts.broken(random, text) : text;
        text = random.nextInt(10) == 0 ? " \n  ".substring(random.nextInt(4)) : text;
        feed(text);
        due("rule " + text, lift.rule(), model.rule());
    }

    private void rareCall() {
        int n = pick(2, 6);
        switch (random.nextInt(4)) {
            case 0: due("floors " + n, lift.floors(n), model.floors(n)); break;
            case 1: due("again", lift.again(), model.again()); break;
            case 2: feed(Texts.broken(random, "relay a = 1; far + ~ ")); break;
            default:
                long x = random.nextLong();
                due("feed", lift.feed(x, ~x, x * 31), model.feed(x, ~x, x * 31));
                break;
        }
    }

    private void look(int what) {
        long got = Long.MIN_VALUE;
        long want = Long.MIN_VALUE;
        try {
            got = lift.look(what);
        } catch (NoSuchElementException e) {
            got = Long.MIN_VALUE;
        }
        try {
            want = model.look(what);
        } catch (NoSuchElementException e) {
            want = Long.MIN_VALUE;
        }
        due("look " + what, got, want);
    }

    private void circuitCall() {
        int floor = aFloor();
        int button = pick(-1, model.count(0) - 1);
        int what = pick(0, 1);
        int line = pick(0, Math.max(0, model.count(1) - 1));
        int patience = random.nextBoolean() ? pick(1, 60) : pick(1, 8);
        int i = random.nextInt(4) == 0 ? pick(0, 20) : pick(0, 4);
        int lamps = random.nextInt(8) == 0 ? pick(0, 255) : model.lampsSeen(random, NONE, false);
        int lampsThen = random.nextInt(8) == 0 ? pick(0, 255) : model.lampsSeen(random, button, true);
        int half = random.nextInt(40);
        if (half < 2) {
            tellCircuit();
        } else if (half == 2 && random.nextInt(3) == 0) {
            rareCall();
        }
        switch (random.nextInt(13)) {
            case 0: case 1: case 2: due("press " + button, lift.press(button), model.press(button)); break;
            case 3: look(pick(0, 5)); break;
            case 4: due("never " + line + " " + what, lift.never(line, what), model.never(line, what)); break;
            case 5: due("neverRow " + line + " " + i, lift.neverRow(line, i), model.neverRow(line, i)); break;
            case 6:
                due("forgets " + floor + " " + patience + " " + what,
                    lift.forgets(floor, patience, what), model.forgets(floor, patience, what));
                break;
            case 7:
                due("forgetsRow " + floor + " " + patience + " " + i,
                    lift.forgetsRow(floor, patience, i), model.forgetsRow(floor, patience, i));
                break;
            case 8: due("stuck " + lamps, lift.stuck(lamps), model.stuck(lamps)); break;
            case 9:
                due("tried " + button + " " + lampsThen, lift.tried(button, lampsThen), model.tried(button, lampsThen));
                break;
            case 10: what = pick(0, 4); due("thought " + what, lift.thought(what), model.thought(what)); break;
            case 11: due("tests " + what, lift.tests(what), model.tests(what)); break;
            default: what = pick(0, 7); due("count " + what, lift.count(what), model.count(what)); break;
        }
    }

    private void carsCall() {
        int part = pick(0, model.count(0) - 2);
        int car = pick(0, 1);
        switch (random.nextInt(40)) {
            case 0: case 1: tellRule(); break;
            case 2: case 3: case 4:
                int n = pick(1, 2);
                int size = random.nextBoolean() ? pick(1, 2) : pick(1, 8);
                int doors = random.nextInt(3) == 0 ? pick(0, 9) : pick(0, 2);
                int park = aFloor();
                due("cars", lift.cars(n, size, doors, park), model.cars(n, size, doors, park));
                break;
            case 5: case 6: case 7: case 8: case 9: case 10: case 11:
                int comes = random.nextInt(5) == 0 ? pick(0, 300) : pick(0, 20);
                int from = aFloor();
                int to = aFloor();
                due("person " + comes + " " + from + " " + to,
                    lift.person(comes, from, to), model.person(comes, from, to));
                break;
            case 12: case 13:
                int time = random.nextInt(4) == 0 ? pick(0, 899) : pick(0, 20);
                int ticks = pick(1, 60);
                due("hold", lift.hold(time, car, ticks), model.hold(time, car, ticks));
                break;
            case 14:
                int fire = random.nextInt(3) == 0 ? pick(-1, 899) : pick(-1, 40);
                due("fire " + fire, lift.fire(fire), model.fire(fire));
                break;
            case 15:
                if (random.nextInt(3) == 0) {
                    due("nobody", lift.nobody(), model.nobody());
                }
                break;
            case 16: rareCall(); break;
            case 17: case 18: case 19: case 20: due("run", lift.run(), model.run()); break;
            case 21: case 22: case 23: case 24: case 25: case 26:
                int person = pick(0, Math.max(0, model.count(4) - 1));
                int what = pick(0, 3);
                due("rode " + person + " " + what, lift.rode(person, what), model.rode(person, what));
                break;
            case 27: case 28: case 29: what = pick(0, 3); due("waits " + what, lift.waits(what), model.waits(what)); break;
            case 30: case 31: case 32: case 33:
                due("moved " + car + " " + part, lift.moved(car, part), model.moved(car, part));
                break;
            case 34: case 35: due("stopped " + car, lift.stopped(car), model.stopped(car)); break;
            default:
                int aim = pick(0, 2);
                what = pick(0, 1);
                due("best " + aim + " " + what, lift.best(aim, what), model.best(aim, what));
                break;
        }
    }

    private void ropeCall() {
        int part = pick(0, model.count(0) - 2);
        int what = pick(0, 2);
        switch (random.nextInt(10)) {
            case 0: case 1:
                int from = aFloor();
                int to = aFloor();
                int n = random.nextBoolean() ? pick(1, 9999) : pick(1, 30);
                due("trip", lift.trip(from, to, n), model.trip(from, to, n));
                break;
            case 2:
                n = what == 0 ? pick(0, 50) : what == 1 ? pick(1, random.nextBoolean() ? 999999 : 9999) : pick(1, 9999);
                due("gauge " + what + " " + n, lift.gauge(what, n), model.gauge(what, n));
                break;
            case 3: case 4: due("rope " + part + " " + what, lift.rope(part, what), model.rope(part, what)); break;
            case 5: case 6: what = pick(0, 1); due("first " + what, lift.first(what), model.first(what)); break;
            case 7: case 8:
                what = pick(0, 1);
                due("lasts " + part + " " + what, lift.lasts(part, what), model.lasts(part, what));
                break;
            default:
                if (random.nextInt(12) == 0) {
                    rareCall();
                }
                due("count 6", lift.count(6), model.count(6));
                break;
        }
    }
}
