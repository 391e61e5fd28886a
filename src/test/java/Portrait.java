/**
 * All that an object answers when it is asked, as a text: two objects of which all is the same have
 * the same portrait. It takes some 200 calls, 300 with 24 persons, and none of them but circuit, at
 * the end, changes anything.
 */
final class Portrait {
    private static final int[] PATIENCES = {1, 3, 60};
    private final OldLift lift;
    private final int floors;
    private final int nevers;
    private final int persons;
    private final StringBuilder text = new StringBuilder();

    private Portrait(OldLift lift) {
        this.lift = lift;
        floors = lift.count(0);
        nevers = lift.count(1);
        persons = lift.count(4);
    }

    /** All but what the tape says, of which there is the length alone. */
    static String of(OldLift lift) {
        Portrait portrait = new Portrait(lift);
        portrait.counts();
        portrait.circuit();
        portrait.stuck();
        portrait.cars();
        portrait.rope();
        return portrait.text.toString();
    }

    /** The tape, too: as what is wrong with it when it is read. */
    static String withTape(OldLift lift) {
        return of(lift) + " tape " + lift.circuit();
    }

    private void add(String call, long answer) {
        text.append(call).append('=').append(answer).append(' ');
    }

    private void counts() {
        for (int what = 0; what < 8; what++) {
            add("count" + what, lift.count(what));
        }
    }

    private void circuit() {
        for (int what = 0; what < 6; what++) {
            add("look" + what, lift.look(what));
        }
        for (int line = 0; line < nevers; line++) {
            add("never" + line, lift.never(line, 1));
            add("neverRow" + line, lift.neverRow(line, 0));
            add("neverRow" + line, lift.neverRow(line, 1));
        }
        for (int floor = 0; floor < floors; floor++) {
            for (int patience : PATIENCES) {
                add("forgets" + floor + "," + patience, lift.forgets(floor, patience, 1));
                add("forgetsRow" + floor + "," + patience, lift.forgetsRow(floor, patience, 0));
            }
        }
    }

    private void stuck() {
        for (int what = 0; what < 5; what++) {
            add("thought" + what, lift.thought(what));
        }
        add("tests0", lift.tests(0));
        add("tests1", lift.tests(1));
    }

    private void cars() {
        add("run", lift.run());
        for (int person = 0; person < persons; person++) {
            for (int what = 0; what < 4; what++) {
                add("rode" + person + "," + what, lift.rode(person, what));
            }
        }
        for (int what = 0; what < 4; what++) {
            add("waits" + what, lift.waits(what));
        }
        for (int car = 0; car < 2; car++) {
            add("stopped" + car, lift.stopped(car));
            for (int part = 0; part < floors - 1; part++) {
                add("moved" + car + "," + part, lift.moved(car, part));
            }
        }
        for (int aim = 0; aim < 3; aim++) {
            add("best" + aim, lift.best(aim, 0));
            add("way" + aim, lift.best(aim, 1));
        }
    }

    private void rope() {
        for (int part = 0; part < floors - 1; part++) {
            for (int what = 0; what < 3; what++) {
                add("rope" + part + "," + what, lift.rope(part, what));
            }
            add("fewest" + part, lift.lasts(part, 0));
            add("most" + part, lift.lasts(part, 1));
        }
        add("may", lift.first(0));
        add("must", lift.first(1));
    }
}
