/** Promises 22 to 24. */
public final class RecordTest {
    private static final Check check = new Check("RecordTest");

    public static void main(String[] args) {
        eachStep();
        noStep();
        closingsByRisingNumbers();
        noSuchStep();
        check.end();
    }

    /** Checks that the newest step is as told, sealed with the one before. */
    private static void step(AccessGate gate, int number, int kind, int person, int machine, int time) {
        check.same("steps behind " + number, gate.steps(), number + 1);
        sealed(gate, number, kind, person, machine, time);
    }

    private static void sealed(AccessGate gate, int number, int kind, int person, int machine, int time) {
        check.same("kind of " + number, gate.kind(number), kind);
        long before = number == 0 ? 1 : gate.seal(number - 1);
        long want = (31 * before + kind + 10L * person + 200L * machine + 2000L * time) % 1000003;
        check.same("seal of " + number, gate.seal(number), want);
    }

    private static void eachStep() {
        AccessGate gate = Gates.staffed();
        gate.pass(3);
        gate.ask(Gates.ASKER, Gates.TWIN, 100);
        step(gate, 0, 0, Gates.ASKER, Gates.TWIN, 3);
        gate.pass(2);
        gate.approve(0, Gates.OTHER);
        step(gate, 1, 1, Gates.OTHER, Gates.TWIN, 5);
        gate.approve(0, Gates.THIRD);
        step(gate, 2, 1, Gates.THIRD, Gates.TWIN, 5);
        gate.ask(Gates.MATE, Gates.TWIN, 100);
        step(gate, 3, 0, Gates.MATE, Gates.TWIN, 5);
        gate.deny(1, Gates.THIRD);
        step(gate, 4, 2, Gates.THIRD, Gates.TWIN, 5);
        gate.enter(Gates.MATE, Gates.TWIN);
        step(gate, 5, 3, Gates.MATE, Gates.TWIN, 5);
        gate.pass(1);
        gate.lookAt(0, Gates.BARE);
        step(gate, 6, 4, Gates.BARE, Gates.TWIN, 6);
        gate.open(Gates.ASKER, Gates.TWIN);
        step(gate, 7, 5, Gates.ASKER, Gates.TWIN, 6);
        gate.type(0, AccessGate.PLAIN);
        step(gate, 8, 7, Gates.ASKER, Gates.TWIN, 6);
        gate.type(0, AccessGate.RISKY);
        step(gate, 9, 7, Gates.ASKER, Gates.TWIN, 6);
        gate.letThrough(0, Gates.OTHER);
        step(gate, 10, 8, Gates.OTHER, Gates.TWIN, 6);
        gate.close(0);
        step(gate, 11, 6, Gates.ASKER, Gates.TWIN, 6);
        gate.open(Gates.ASKER, Gates.TWIN);
        gate.pass(20);
        step(gate, 13, 6, Gates.ASKER, Gates.TWIN, 21);
        gate.open(Gates.ASKER, Gates.TWIN);
        gate.takeAway(Gates.ASKER, Gates.TWIN);
        step(gate, 15, 6, Gates.ASKER, Gates.TWIN, 26);
    }

    private static void noStep() {
        AccessGate gate = Gates.granted(600);
        int steps = gate.steps();
        gate.addPerson(0);
        gate.addMachine(0);
        gate.setLabel(Gates.BARE, 0, true);
        gate.setLabel(Gates.BARE, 0, false);
        gate.takeAway(Gates.BARE, Gates.MACHINE);
        gate.pass(1);
        check.throwsState("an approval that throws", () -> gate.approve(0, Gates.OTHER));
        check.throwsState("a denial that throws", () -> gate.deny(0, Gates.OTHER));
        check.throwsState("an opening that throws", () -> gate.open(Gates.MATE, Gates.MACHINE));
        check.throwsArgument("an ask that throws", () -> gate.ask(Gates.ASKER, Gates.MACHINE, 0));
        check.same("none is a step", gate.steps(), steps);
        check.same("asking for the record is none", gate.kind(0), 0);
        check.same("nor its length", gate.steps(), steps);
    }

    private static void closingsByRisingNumbers() {
        AccessGate gate = Gates.staffed();
        gate.enter(Gates.THIRD, Gates.TWIN);
        gate.enter(Gates.ASKER, Gates.MACHINE);
        gate.enter(Gates.ASKER, Gates.TWIN);
        gate.open(Gates.THIRD, Gates.TWIN);
        gate.open(Gates.ASKER, Gates.TWIN);
        gate.open(Gates.ASKER, Gates.MACHINE);
        gate.open(Gates.THIRD, Gates.TWIN);
        gate.pass(1);
        gate.type(0, AccessGate.PLAIN);
        check.same("all close", gate.pass(50), 4);
        check.same("steps", gate.steps(), 12);
        sealed(gate, 8, 6, Gates.ASKER, Gates.TWIN, 15);
        sealed(gate, 9, 6, Gates.ASKER, Gates.MACHINE, 15);
        sealed(gate, 10, 6, Gates.THIRD, Gates.TWIN, 15);
        sealed(gate, 11, 6, Gates.THIRD, Gates.TWIN, 16);
        gate.enter(Gates.ASKER, Gates.TWIN);
        gate.enter(Gates.ASKER, Gates.MACHINE);
        gate.open(Gates.ASKER, Gates.TWIN);
        gate.open(Gates.ASKER, Gates.MACHINE);
        check.same("a label closes both", gate.setLabel(Gates.ASKER, 0, false), 2);
        sealed(gate, 16, 6, Gates.ASKER, Gates.TWIN, 51);
        sealed(gate, 17, 6, Gates.ASKER, Gates.MACHINE, 51);
    }

    private static void noSuchStep() {
        AccessGate gate = Gates.staffed();
        check.throwsIndex("kind of none", () -> gate.kind(0));
        check.throwsIndex("seal of none", () -> gate.seal(0));
        gate.ask(Gates.ASKER, Gates.MACHINE, 1);
        check.same("kind of the first", gate.kind(0), 0);
        check.same("seal of the first", gate.seal(0), 31);
        check.throwsIndex("kind of step 1", () -> gate.kind(1));
        check.throwsIndex("seal of step 1", () -> gate.seal(1));
        check.throwsIndex("kind of step -1", () -> gate.kind(-1));
        check.throwsIndex("seal of step -1", () -> gate.seal(-1));
        check.throwsIndex("kind of the last int", () -> gate.kind(Integer.MAX_VALUE));
        check.throwsIndex("seal of the last int", () -> gate.seal(Integer.MAX_VALUE));
    }
}
