/** Promises 6 to 13. */
public final class AsksAndEntriesTest {
    private static final Check check = new Check("AsksAndEntriesTest");

    public static void main(String[] args) {
        promise6Ask();
        promise6AskThrows();
        promise7Approve();
        promise7ApproveThrows();
        promise7ApprovalStays();
        promise8Deny();
        promise9AskState();
        promise10Enter();
        promise11LookAt();
        promise12Overdue();
        promise13CouldEnter();
        check.end();
    }

    private static void promise6Ask() {
        AccessGate gate = Gates.staffed();
        check.same("first ask", gate.ask(Gates.ASKER, Gates.MACHINE, 1), 0);
        check.same("same ask again", gate.ask(Gates.ASKER, Gates.MACHINE, 600), 1);
        check.same("ask of another", gate.ask(Gates.THIRD, Gates.TWIN, 300), 2);
        check.same("it waits", gate.askState(2), AccessGate.WAITING);
        check.no("it gives no right", gate.couldEnter(Gates.ASKER, Gates.MACHINE, 0));
        check.same("three steps", gate.steps(), 3);
    }

    private static void promise6AskThrows() {
        AccessGate gate = Gates.staffed();
        check.throwsIndex("person 5", () -> gate.ask(5, 0, 1));
        check.throwsIndex("person -1", () -> gate.ask(-1, 0, 1));
        check.throwsIndex("machine 3", () -> gate.ask(0, 3, 1));
        check.throwsIndex("machine -1", () -> gate.ask(0, -1, 1));
        check.throwsIndex("machine ahead of minutes", () -> gate.ask(0, 3, 0));
        check.throwsArgument("0 minutes", () -> gate.ask(0, 0, 0));
        check.throwsArgument("601 minutes", () -> gate.ask(0, 0, 601));
        check.throwsArgument("minutes ahead of label", () -> gate.ask(Gates.BARE, 0, 601));
        check.throwsState("no label", () -> gate.ask(Gates.BARE, 0, 1));
        check.throwsState("another label", () -> gate.ask(0, Gates.STRANGE, 1));
        gate.enter(Gates.ASKER, Gates.MACHINE);
        gate.pass(1439);
        check.same("not yet overdue", gate.ask(Gates.ASKER, Gates.MACHINE, 1), 0);
        gate.pass(1);
        check.throwsState("overdue", () -> gate.ask(Gates.ASKER, Gates.TWIN, 1));
        check.same("another can", gate.ask(Gates.MATE, Gates.TWIN, 1), 1);
        gate.lookAt(0, Gates.BARE);
        check.same("looked at", gate.ask(Gates.ASKER, Gates.TWIN, 1), 2);
        check.same("only what did not throw is a step", gate.steps(), 5);
    }

    private static void promise7Approve() {
        AccessGate gate = Gates.staffed();
        int ask = gate.ask(Gates.ASKER, Gates.MACHINE, 20);
        gate.pass(7);
        check.no("first approval", gate.approve(ask, Gates.OTHER));
        check.same("it waits on", gate.askState(ask), AccessGate.WAITING);
        check.no("no right yet", gate.couldEnter(Gates.ASKER, Gates.MACHINE, 7));
        gate.pass(3);
        check.yes("second approval", gate.approve(ask, Gates.THIRD));
        check.same("approved", gate.askState(ask), AccessGate.APPROVED);
        check.no("begins with it", gate.couldEnter(Gates.ASKER, Gates.MACHINE, 9));
        check.yes("from then on", gate.couldEnter(Gates.ASKER, Gates.MACHINE, 10));
        check.yes("until its end", gate.couldEnter(Gates.ASKER, Gates.MACHINE, 29));
        check.no("ends as many minutes later", gate.couldEnter(Gates.ASKER, Gates.MACHINE, 30));
        check.no("not for the twin", gate.couldEnter(Gates.ASKER, Gates.TWIN, 10));
        check.no("not for the mate", gate.couldEnter(Gates.MATE, Gates.MACHINE, 10));
        check.no("not for who approved", gate.couldEnter(Gates.THIRD, Gates.MACHINE, 10));
    }

    private static void promise7ApproveThrows() {
        AccessGate gate = Gates.staffed();
        int ask = gate.ask(Gates.ASKER, Gates.MACHINE, 20);
        check.throwsIndex("ask 1", () -> gate.approve(1, Gates.OTHER));
        check.throwsIndex("ask -1", () -> gate.approve(-1, Gates.OTHER));
        check.throwsIndex("person 5", () -> gate.approve(ask, 5));
        check.throwsIndex("person -1", () -> gate.approve(ask, -1));
        check.throwsState("the asker", () -> gate.approve(ask, Gates.ASKER));
        check.throwsState("of the same team", () -> gate.approve(ask, Gates.MATE));
        check.throwsState("without the label", () -> gate.approve(ask, Gates.BARE));
        gate.setLabel(Gates.BARE, 1, true);
        check.throwsState("with another label", () -> gate.approve(ask, Gates.BARE));
        gate.approve(ask, Gates.OTHER);
        check.throwsState("approved it before", () -> gate.approve(ask, Gates.OTHER));
        check.same("two steps", gate.steps(), 2);
        gate.approve(ask, Gates.THIRD);
        gate.setLabel(Gates.BARE, 0, true);
        check.throwsState("approved", () -> gate.approve(ask, Gates.BARE));
        check.throwsIndex("person ahead of the state", () -> gate.approve(ask, 5));
        int late = gate.ask(Gates.ASKER, Gates.MACHINE, 20);
        gate.approve(late, Gates.OTHER);
        gate.pass(59);
        check.same("waits for 59", gate.askState(late), AccessGate.WAITING);
        gate.pass(1);
        check.throwsState("lapsed", () -> gate.approve(late, Gates.THIRD));
    }

    private static void promise7ApprovalStays() {
        AccessGate gate = Gates.staffed();
        int ask = gate.ask(Gates.ASKER, Gates.MACHINE, 20);
        gate.approve(ask, Gates.OTHER);
        gate.setLabel(Gates.OTHER, 0, false);
        check.yes("though the label is gone", gate.approve(ask, Gates.THIRD));
        int second = gate.ask(Gates.ASKER, Gates.MACHINE, 20);
        int sameTeam = gate.addPerson(2);
        gate.setLabel(sameTeam, 0, true);
        gate.approve(second, Gates.THIRD);
        check.yes("two of one team", gate.approve(second, sameTeam));
        int third = gate.ask(Gates.ASKER, Gates.MACHINE, 20);
        gate.setLabel(Gates.OTHER, 0, true);
        gate.approve(third, Gates.OTHER);
        gate.pass(59);
        check.yes("in the last minute", gate.approve(third, Gates.THIRD));
    }

    private static void promise8Deny() {
        AccessGate gate = Gates.staffed();
        int ask = gate.ask(Gates.ASKER, Gates.MACHINE, 20);
        check.throwsIndex("ask 1", () -> gate.deny(1, Gates.OTHER));
        check.throwsIndex("ask -1", () -> gate.deny(-1, Gates.OTHER));
        check.throwsIndex("person 5", () -> gate.deny(ask, 5));
        check.throwsState("the asker", () -> gate.deny(ask, Gates.ASKER));
        check.throwsState("of the same team", () -> gate.deny(ask, Gates.MATE));
        check.throwsState("without the label", () -> gate.deny(ask, Gates.BARE));
        check.same("it waits on", gate.askState(ask), AccessGate.WAITING);
        gate.deny(ask, Gates.OTHER);
        check.same("denied", gate.askState(ask), AccessGate.DENIED);
        check.throwsState("denied before", () -> gate.deny(ask, Gates.THIRD));
        check.throwsState("denied, then approved", () -> gate.approve(ask, Gates.THIRD));
        int second = gate.ask(Gates.ASKER, Gates.MACHINE, 20);
        gate.approve(second, Gates.OTHER);
        gate.deny(second, Gates.OTHER);
        check.same("by one who has approved", gate.askState(second), AccessGate.DENIED);
        int third = gate.ask(Gates.ASKER, Gates.MACHINE, 20);
        gate.pass(60);
        check.throwsState("lapsed", () -> gate.deny(third, Gates.OTHER));
        check.same("stays lapsed", gate.askState(third), AccessGate.LAPSED);
        check.same("steps", gate.steps(), 6);
        Gates.grant(gate, Gates.ASKER, Gates.MACHINE, 20);
        check.throwsState("approved", () -> gate.deny(3, Gates.OTHER));
        check.yes("a right stays", gate.couldEnter(Gates.ASKER, Gates.MACHINE, 60));
    }

    private static void promise9AskState() {
        AccessGate gate = Gates.staffed();
        check.throwsIndex("ask 0", () -> gate.askState(0));
        gate.pass(5);
        gate.ask(Gates.ASKER, Gates.MACHINE, 600);
        check.throwsIndex("ask 1", () -> gate.askState(1));
        check.throwsIndex("ask -1", () -> gate.askState(-1));
        gate.pass(59);
        check.same("waits for 59 minutes", gate.askState(0), AccessGate.WAITING);
        gate.pass(1);
        check.same("lapses with 60", gate.askState(0), AccessGate.LAPSED);
        check.same("a lapse is no step", gate.steps(), 1);
        gate.ask(Gates.ASKER, Gates.MACHINE, 1);
        gate.approve(1, Gates.OTHER);
        gate.approve(1, Gates.THIRD);
        gate.ask(Gates.ASKER, Gates.MACHINE, 1);
        gate.deny(2, Gates.THIRD);
        gate.pass(3000);
        check.same("approved for good", gate.askState(1), AccessGate.APPROVED);
        check.same("denied for good", gate.askState(2), AccessGate.DENIED);
    }

    private static void promise10Enter() {
        AccessGate gate = Gates.staffed();
        check.throwsIndex("person 5", () -> gate.enter(5, 0));
        check.throwsIndex("person -1", () -> gate.enter(-1, 0));
        check.throwsIndex("machine 3", () -> gate.enter(0, 3));
        check.throwsIndex("machine -1", () -> gate.enter(0, -1));
        check.throwsState("no label", () -> gate.enter(Gates.BARE, 0));
        check.throwsState("another label", () -> gate.enter(0, Gates.STRANGE));
        gate.pass(2);
        check.same("first entry", gate.enter(Gates.ASKER, Gates.MACHINE), 0);
        check.same("second entry", gate.enter(Gates.ASKER, Gates.MACHINE), 1);
        check.same("two steps", gate.steps(), 2);
        check.no("not ahead", gate.couldEnter(Gates.ASKER, Gates.MACHINE, 1));
        check.yes("at once", gate.couldEnter(Gates.ASKER, Gates.MACHINE, 2));
        check.yes("for 30 minutes", gate.couldEnter(Gates.ASKER, Gates.MACHINE, 31));
        check.no("no longer", gate.couldEnter(Gates.ASKER, Gates.MACHINE, 32));
        gate.pass(1439);
        check.same("not yet overdue", gate.enter(Gates.ASKER, Gates.TWIN), 2);
        gate.pass(1);
        check.throwsState("overdue", () -> gate.enter(Gates.ASKER, Gates.MACHINE));
        gate.lookAt(0, Gates.OTHER);
        check.throwsState("one still overdue", () -> gate.enter(Gates.ASKER, Gates.MACHINE));
        gate.lookAt(1, Gates.OTHER);
        check.same("none overdue", gate.enter(Gates.ASKER, Gates.MACHINE), 3);
    }

    private static void promise11LookAt() {
        AccessGate gate = Gates.staffed();
        check.throwsIndex("entry 0", () -> gate.lookAt(0, Gates.OTHER));
        gate.pass(4);
        gate.enter(Gates.ASKER, Gates.MACHINE);
        gate.enter(Gates.ASKER, Gates.MACHINE);
        check.throwsIndex("entry 2", () -> gate.lookAt(2, Gates.OTHER));
        check.throwsIndex("entry -1", () -> gate.lookAt(-1, Gates.OTHER));
        check.throwsIndex("person 5", () -> gate.lookAt(0, 5));
        check.throwsIndex("person -1", () -> gate.lookAt(0, -1));
        check.throwsState("who entered", () -> gate.lookAt(0, Gates.ASKER));
        check.throwsState("of the team", () -> gate.lookAt(0, Gates.MATE));
        check.same("at once", gate.lookAt(0, Gates.OTHER), 0);
        check.yes("the right stays", gate.couldEnter(Gates.ASKER, Gates.MACHINE, 33));
        check.throwsState("somebody has", () -> gate.lookAt(0, Gates.THIRD));
        gate.pass(100);
        check.same("later, without the label", gate.lookAt(1, Gates.BARE), 100);
        check.same("steps", gate.steps(), 4);
        check.throwsIndex("person ahead of the state", () -> gate.lookAt(1, 5));
    }

    private static void promise12Overdue() {
        AccessGate gate = Gates.staffed();
        check.throwsIndex("person 5", () -> gate.overdue(5));
        check.throwsIndex("person -1", () -> gate.overdue(-1));
        gate.enter(Gates.ASKER, Gates.MACHINE);
        gate.enter(Gates.OTHER, Gates.MACHINE);
        gate.pass(1);
        gate.enter(Gates.ASKER, Gates.TWIN);
        gate.enter(Gates.ASKER, Gates.TWIN);
        gate.lookAt(3, Gates.OTHER);
        gate.pass(1438);
        check.same("after 1439", gate.overdue(Gates.ASKER), 0);
        gate.pass(1);
        check.same("after 1440", gate.overdue(Gates.ASKER), 1);
        gate.pass(1);
        check.same("the later one too, but the one looked at", gate.overdue(Gates.ASKER), 2);
        check.same("each his own", gate.overdue(Gates.OTHER), 1);
        check.same("another has none", gate.overdue(Gates.MATE), 0);
        check.same("looked at after", gate.lookAt(0, Gates.OTHER), 1441);
        check.same("one is left", gate.overdue(Gates.ASKER), 1);
    }

    private static void promise13CouldEnter() {
        AccessGate gate = Gates.granted(10);
        check.throwsIndex("person 5", () -> gate.couldEnter(5, 0, 0));
        check.throwsIndex("person -1", () -> gate.couldEnter(-1, 0, 0));
        check.throwsIndex("machine 3", () -> gate.couldEnter(0, 3, 0));
        check.throwsIndex("machine -1", () -> gate.couldEnter(0, -1, 0));
        check.throwsIndex("machine ahead of time", () -> gate.couldEnter(0, 3, -1));
        check.throwsArgument("time -1", () -> gate.couldEnter(0, 0, -1));
        check.throwsArgument("time 100001", () -> gate.couldEnter(0, 0, 100001));
        check.no("time 100000", gate.couldEnter(0, 0, 100000));
        gate.pass(20);
        gate.enter(Gates.ASKER, Gates.MACHINE);
        check.yes("first right", gate.couldEnter(0, 0, 0));
        check.yes("its last minute", gate.couldEnter(0, 0, 9));
        check.no("its end", gate.couldEnter(0, 0, 10));
        check.no("between the two", gate.couldEnter(0, 0, 19));
        check.yes("second right", gate.couldEnter(0, 0, 20));
        check.yes("times to come", gate.couldEnter(0, 0, 49));
        check.no("its end to come", gate.couldEnter(0, 0, 50));
        for (int i = 0; i < 33; i++) {
            gate.pass(3000);
        }
        gate.pass(980);
        gate.lookAt(0, Gates.OTHER);
        check.same("the last minute", gate.clock(), 100000);
        gate.enter(Gates.ASKER, Gates.MACHINE);
        check.yes("holds in the last minute", gate.couldEnter(0, 0, 100000));
    }
}
