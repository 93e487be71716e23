/** Promises 1 to 5. */
public final class PeopleAndMachinesTest {
    private static final Check check = new Check("PeopleAndMachinesTest");

    public static void main(String[] args) {
        constants();
        promise1NewObject();
        promise2AddPerson();
        promise3AddMachine();
        promise4SetLabel();
        promise4SetLabelEndsRights();
        promise4SetLabelDeniesAsks();
        promise4SetLabelThrows();
        promise5TakeAway();
        promise5TakeAwayDeniesAsks();
        promise5TakeAwayEndsOnlyWhatHolds();
        check.end();
    }

    private static void constants() {
        check.same("PLAIN", AccessGate.PLAIN, 0);
        check.same("RISKY", AccessGate.RISKY, 1);
        check.same("FORBIDDEN", AccessGate.FORBIDDEN, 2);
        check.same("WAITING", AccessGate.WAITING, 0);
        check.same("APPROVED", AccessGate.APPROVED, 1);
        check.same("DENIED", AccessGate.DENIED, 2);
        check.same("LAPSED", AccessGate.LAPSED, 3);
    }

    private static void promise1NewObject() {
        AccessGate gate = new AccessGate();
        check.same("clock of a new object", gate.clock(), 0);
        check.same("steps of a new object", gate.steps(), 0);
        check.same("open sessions of a new object", gate.openSessions(), 0);
        check.throwsIndex("no person in a new object", () -> gate.overdue(0));
        check.throwsIndex("no ask in a new object", () -> gate.askState(0));
        check.throwsIndex("no session in a new object", () -> gate.isOpen(0));
        gate.addPerson(0);
        check.throwsIndex("no machine in a new object", () -> gate.takeAway(0, 0));
        AccessGate second = new AccessGate();
        check.throwsIndex("objects share no people", () -> second.overdue(0));
    }

    private static void promise2AddPerson() {
        AccessGate gate = new AccessGate();
        check.throwsArgument("team -1", () -> gate.addPerson(-1));
        check.throwsArgument("team 4", () -> gate.addPerson(4));
        check.throwsArgument("the least team", () -> gate.addPerson(Integer.MIN_VALUE));
        for (int i = 0; i < 12; i++) {
            check.same("person " + i, gate.addPerson(i % 4), i);
        }
        check.throwsState("person 12", () -> gate.addPerson(0));
        check.throwsArgument("person 12 of team 4", () -> gate.addPerson(4));
        check.same("person 11 is there", gate.overdue(11), 0);
        check.throwsIndex("person 12 is not there", () -> gate.overdue(12));
        check.same("a person is no step", gate.steps(), 0);
    }

    private static void promise3AddMachine() {
        AccessGate gate = new AccessGate();
        gate.addPerson(0);
        check.throwsArgument("label -1", () -> gate.addMachine(-1));
        check.throwsArgument("label 4", () -> gate.addMachine(4));
        for (int i = 0; i < 8; i++) {
            check.same("machine " + i, gate.addMachine(i % 4), i);
        }
        check.throwsState("machine 8", () -> gate.addMachine(0));
        check.throwsArgument("machine 8 of label 4", () -> gate.addMachine(4));
        check.same("machine 7 is there", gate.takeAway(0, 7), 0);
        check.throwsIndex("machine 8 is not there", () -> gate.takeAway(0, 8));
    }

    private static void promise4SetLabel() {
        AccessGate gate = new AccessGate();
        gate.addPerson(0);
        gate.addPerson(0);
        for (int label = 0; label < 4; label++) {
            gate.addMachine(label);
        }
        for (int label = 0; label < 4; label++) {
            int machine = label;
            check.throwsState("at first no label " + label, () -> gate.ask(0, machine, 1));
            check.same("giving closes nothing", gate.setLabel(0, label, true), 0);
            check.same("asks with label " + label, gate.ask(0, machine, 1), label);
            check.throwsState("the other person has not", () -> gate.ask(1, machine, 1));
        }
        check.same("giving again", gate.setLabel(0, 2, true), 0);
        check.same("taking away", gate.setLabel(0, 2, false), 0);
        check.same("taking away again", gate.setLabel(0, 2, false), 0);
        check.throwsState("label 2 is gone", () -> gate.ask(0, 2, 1));
        check.same("label 3 stays", gate.ask(0, 3, 1), 4);
        check.same("labels are no steps", gate.steps(), 5);
    }

    private static void promise4SetLabelEndsRights() {
        AccessGate gate = Gates.granted(100);
        Gates.grant(gate, Gates.ASKER, Gates.TWIN, 100);
        Gates.grant(gate, Gates.MATE, Gates.MACHINE, 100);
        gate.setLabel(Gates.ASKER, 1, true);
        gate.enter(Gates.ASKER, Gates.STRANGE);
        gate.open(Gates.ASKER, Gates.MACHINE);
        gate.open(Gates.ASKER, Gates.TWIN);
        gate.open(Gates.MATE, Gates.MACHINE);
        gate.open(Gates.ASKER, Gates.STRANGE);
        gate.pass(10);
        check.same("both machines of the label close", gate.setLabel(Gates.ASKER, 0, false), 2);
        check.no("session 0", gate.isOpen(0));
        check.no("session 1", gate.isOpen(1));
        check.yes("session of the mate", gate.isOpen(2));
        check.yes("session on a machine of another label", gate.isOpen(3));
        check.yes("held until then", gate.couldEnter(Gates.ASKER, Gates.MACHINE, 9));
        check.no("ends now", gate.couldEnter(Gates.ASKER, Gates.MACHINE, 10));
        check.no("ends now on the twin", gate.couldEnter(Gates.ASKER, Gates.TWIN, 10));
        check.yes("another label's right stays", gate.couldEnter(Gates.ASKER, Gates.STRANGE, 10));
        gate.setLabel(Gates.ASKER, 0, true);
        check.throwsState("the right does not come back", () -> gate.open(Gates.ASKER, Gates.MACHINE));
    }

    private static void promise4SetLabelDeniesAsks() {
        AccessGate gate = Gates.staffed();
        gate.setLabel(Gates.ASKER, 1, true);
        int lapsed = gate.ask(Gates.ASKER, Gates.MACHINE, 5);
        gate.pass(60);
        int waiting = gate.ask(Gates.ASKER, Gates.MACHINE, 5);
        int twin = gate.ask(Gates.ASKER, Gates.TWIN, 5);
        int strange = gate.ask(Gates.ASKER, Gates.STRANGE, 5);
        int mate = gate.ask(Gates.MATE, Gates.MACHINE, 5);
        int steps = gate.steps();
        gate.setLabel(Gates.ASKER, 0, false);
        check.same("a lapsed ask stays lapsed", gate.askState(lapsed), AccessGate.LAPSED);
        check.same("a waiting ask is denied", gate.askState(waiting), AccessGate.DENIED);
        check.same("on each machine of the label", gate.askState(twin), AccessGate.DENIED);
        check.same("not of another label", gate.askState(strange), AccessGate.WAITING);
        check.same("not of another person", gate.askState(mate), AccessGate.WAITING);
        check.same("without a step", gate.steps(), steps);
        gate.setLabel(Gates.ASKER, 0, true);
        check.throwsState("it stays denied", () -> gate.approve(waiting, Gates.OTHER));
    }

    private static void promise4SetLabelThrows() {
        AccessGate gate = Gates.inSession();
        check.throwsIndex("person 5", () -> gate.setLabel(5, 0, false));
        check.throwsIndex("person -1", () -> gate.setLabel(-1, 0, false));
        check.throwsIndex("person ahead of label", () -> gate.setLabel(5, 9, false));
        check.throwsArgument("label 4", () -> gate.setLabel(Gates.ASKER, 4, false));
        check.throwsArgument("label -1", () -> gate.setLabel(Gates.ASKER, -1, false));
        check.throwsArgument("label 32", () -> gate.setLabel(Gates.ASKER, 32, false));
        check.yes("nothing changed", gate.isOpen(0));
    }

    private static void promise5TakeAway() {
        AccessGate gate = Gates.granted(100);
        Gates.grant(gate, Gates.ASKER, Gates.MACHINE, 200);
        Gates.grant(gate, Gates.ASKER, Gates.TWIN, 100);
        Gates.grant(gate, Gates.MATE, Gates.MACHINE, 100);
        gate.open(Gates.ASKER, Gates.MACHINE);
        gate.open(Gates.ASKER, Gates.TWIN);
        gate.open(Gates.MATE, Gates.MACHINE);
        gate.open(Gates.ASKER, Gates.MACHINE);
        gate.pass(3);
        check.same("closes both sessions", gate.takeAway(Gates.ASKER, Gates.MACHINE), 2);
        check.same("again closes none", gate.takeAway(Gates.ASKER, Gates.MACHINE), 0);
        check.yes("the twin stays open", gate.isOpen(1));
        check.yes("the mate stays open", gate.isOpen(2));
        check.yes("held at 2", gate.couldEnter(Gates.ASKER, Gates.MACHINE, 2));
        check.no("ends at 3", gate.couldEnter(Gates.ASKER, Gates.MACHINE, 3));
        check.no("the longer right too", gate.couldEnter(Gates.ASKER, Gates.MACHINE, 150));
        check.yes("the label stays", gate.ask(Gates.ASKER, Gates.MACHINE, 1) > 0);
        check.throwsIndex("person 5", () -> gate.takeAway(5, Gates.TWIN));
        check.throwsIndex("person -1", () -> gate.takeAway(-1, Gates.TWIN));
        check.throwsIndex("machine 3", () -> gate.takeAway(Gates.ASKER, 3));
        check.throwsIndex("machine -1", () -> gate.takeAway(Gates.ASKER, -1));
    }

    private static void promise5TakeAwayDeniesAsks() {
        AccessGate gate = Gates.staffed();
        int waiting = gate.ask(Gates.ASKER, Gates.MACHINE, 5);
        int approved = gate.ask(Gates.ASKER, Gates.MACHINE, 5);
        int twin = gate.ask(Gates.ASKER, Gates.TWIN, 5);
        int mate = gate.ask(Gates.MATE, Gates.MACHINE, 5);
        gate.approve(approved, Gates.OTHER);
        gate.approve(approved, Gates.THIRD);
        int steps = gate.steps();
        gate.takeAway(Gates.ASKER, Gates.MACHINE);
        check.same("a waiting ask is denied", gate.askState(waiting), AccessGate.DENIED);
        check.same("an approved one stays so", gate.askState(approved), AccessGate.APPROVED);
        check.same("not for another machine", gate.askState(twin), AccessGate.WAITING);
        check.same("not of another person", gate.askState(mate), AccessGate.WAITING);
        gate.takeAway(Gates.MATE, Gates.MACHINE);
        check.same("though no right holds", gate.askState(mate), AccessGate.DENIED);
        check.same("without a step", gate.steps(), steps);
    }

    private static void promise5TakeAwayEndsOnlyWhatHolds() {
        AccessGate gate = Gates.granted(5);
        gate.pass(20);
        gate.takeAway(Gates.ASKER, Gates.MACHINE);
        check.yes("an ended right keeps its past", gate.couldEnter(Gates.ASKER, Gates.MACHINE, 4));
        check.no("and its end", gate.couldEnter(Gates.ASKER, Gates.MACHINE, 5));
        check.no("and gets no later one", gate.couldEnter(Gates.ASKER, Gates.MACHINE, 19));
        gate.enter(Gates.ASKER, Gates.MACHINE);
        gate.takeAway(Gates.ASKER, Gates.MACHINE);
        check.no("begun and ended in one minute", gate.couldEnter(Gates.ASKER, Gates.MACHINE, 20));
    }
}
