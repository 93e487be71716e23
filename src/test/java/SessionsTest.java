/** Promises 14 to 21. */
public final class SessionsTest {
    private static final Check check = new Check("SessionsTest");

    public static void main(String[] args) {
        promise14Open();
        promise15Type();
        promise15TypeForbidden();
        promise15TypeThrows();
        promise16LetThrough();
        promise16LetThroughThrows();
        promise17Close();
        promise18IsOpen();
        promise19OpenSessions();
        promise20PassEndsByRest();
        promise20PassEndsByTime();
        promise20PassThrows();
        promise21Clock();
        check.end();
    }

    private static void promise14Open() {
        AccessGate gate = Gates.granted(10);
        check.throwsIndex("person 5", () -> gate.open(5, 0));
        check.throwsIndex("person -1", () -> gate.open(-1, 0));
        check.throwsIndex("machine 3", () -> gate.open(0, 3));
        check.throwsIndex("machine -1", () -> gate.open(0, -1));
        check.throwsState("no right for the twin", () -> gate.open(Gates.ASKER, Gates.TWIN));
        check.throwsState("no right of the mate", () -> gate.open(Gates.MATE, Gates.MACHINE));
        check.same("first", gate.open(Gates.ASKER, Gates.MACHINE), 0);
        check.same("second beside it", gate.open(Gates.ASKER, Gates.MACHINE), 1);
        gate.pass(9);
        check.same("in the last minute", gate.open(Gates.ASKER, Gates.MACHINE), 2);
        gate.pass(1);
        check.throwsState("at the end", () -> gate.open(Gates.ASKER, Gates.MACHINE));
        gate.enter(Gates.ASKER, Gates.MACHINE);
        check.same("by an entry", gate.open(Gates.ASKER, Gates.MACHINE), 3);
    }

    private static void promise15Type() {
        AccessGate gate = Gates.inSession();
        gate.open(Gates.ASKER, Gates.MACHINE);
        check.yes("plain", gate.type(0, AccessGate.PLAIN));
        check.yes("plain again", gate.type(0, AccessGate.PLAIN));
        check.no("risky", gate.type(0, AccessGate.RISKY));
        check.throwsState("plain behind risky", () -> gate.type(0, AccessGate.PLAIN));
        check.throwsState("risky behind risky", () -> gate.type(0, AccessGate.RISKY));
        check.throwsState("forbidden behind risky", () -> gate.type(0, AccessGate.FORBIDDEN));
        check.yes("still open", gate.isOpen(0));
        check.yes("the other session holds none", gate.type(1, AccessGate.PLAIN));
        gate.letThrough(0, Gates.OTHER);
        check.yes("plain once let through", gate.type(0, AccessGate.PLAIN));
        check.no("risky once more", gate.type(0, AccessGate.RISKY));
    }

    private static void promise15TypeForbidden() {
        AccessGate gate = Gates.inSession();
        gate.open(Gates.ASKER, Gates.MACHINE);
        Gates.grant(gate, Gates.ASKER, Gates.TWIN, 100);
        Gates.grant(gate, Gates.MATE, Gates.MACHINE, 100);
        gate.enter(Gates.ASKER, Gates.MACHINE);
        gate.open(Gates.ASKER, Gates.TWIN);
        gate.open(Gates.MATE, Gates.MACHINE);
        int waiting = gate.ask(Gates.ASKER, Gates.MACHINE, 5);
        gate.pass(2);
        int steps = gate.steps();
        check.no("forbidden", gate.type(1, AccessGate.FORBIDDEN));
        check.no("closes it", gate.isOpen(1));
        check.no("and the other on the machine", gate.isOpen(0));
        check.yes("not on the twin", gate.isOpen(2));
        check.yes("not of the mate", gate.isOpen(3));
        check.yes("held until then", gate.couldEnter(Gates.ASKER, Gates.MACHINE, 1));
        check.no("ends all rights", gate.couldEnter(Gates.ASKER, Gates.MACHINE, 2));
        check.same("asks that wait stay", gate.askState(waiting), AccessGate.WAITING);
        check.same("a line and two closings", gate.steps(), steps + 3);
        check.same("the line first", gate.kind(steps), 7);
        check.same("then a closing", gate.kind(steps + 1), 6);
        check.same("then the other", gate.kind(steps + 2), 6);
    }

    private static void promise15TypeThrows() {
        AccessGate gate = Gates.inSession();
        check.throwsIndex("session 1", () -> gate.type(1, 0));
        check.throwsIndex("session -1", () -> gate.type(-1, 0));
        check.throwsIndex("session ahead of kind", () -> gate.type(1, 3));
        check.throwsArgument("kind 3", () -> gate.type(0, 3));
        check.throwsArgument("kind -1", () -> gate.type(0, -1));
        gate.type(0, AccessGate.RISKY);
        check.throwsArgument("kind ahead of a held line", () -> gate.type(0, 3));
        gate.close(0);
        check.throwsArgument("kind ahead of closed", () -> gate.type(0, 3));
        gate.open(Gates.ASKER, Gates.MACHINE);
        gate.close(1);
        check.throwsState("closed with a held line", () -> gate.type(0, AccessGate.PLAIN));
        check.throwsState("closed", () -> gate.type(1, AccessGate.PLAIN));
        check.throwsState("closed, forbidden", () -> gate.type(1, AccessGate.FORBIDDEN));
        check.yes("the right stays", gate.couldEnter(Gates.ASKER, Gates.MACHINE, 0));
    }

    private static void promise16LetThrough() {
        AccessGate gate = Gates.inSession();
        gate.pass(3);
        gate.type(0, AccessGate.RISKY);
        check.same("at once", gate.letThrough(0, Gates.OTHER), 0);
        gate.type(0, AccessGate.RISKY);
        gate.pass(14);
        check.same("after 14 minutes", gate.letThrough(0, Gates.THIRD), 14);
        check.same("letting through is no typing", gate.pass(1), 1);
        check.no("so it rests", gate.isOpen(0));
    }

    private static void promise16LetThroughThrows() {
        AccessGate gate = Gates.inSession();
        check.throwsIndex("session 1", () -> gate.letThrough(1, Gates.OTHER));
        check.throwsIndex("session -1", () -> gate.letThrough(-1, Gates.OTHER));
        check.throwsIndex("person 5", () -> gate.letThrough(0, 5));
        check.throwsIndex("person -1", () -> gate.letThrough(0, -1));
        check.throwsState("no line yet", () -> gate.letThrough(0, Gates.OTHER));
        gate.type(0, AccessGate.PLAIN);
        check.throwsState("a plain line is not held", () -> gate.letThrough(0, Gates.OTHER));
        gate.type(0, AccessGate.RISKY);
        check.throwsState("who typed it", () -> gate.letThrough(0, Gates.ASKER));
        check.throwsState("of the team", () -> gate.letThrough(0, Gates.MATE));
        check.throwsState("without the label", () -> gate.letThrough(0, Gates.BARE));
        gate.letThrough(0, Gates.OTHER);
        check.throwsState("let through before", () -> gate.letThrough(0, Gates.OTHER));
        gate.type(0, AccessGate.RISKY);
        gate.close(0);
        check.throwsState("closed", () -> gate.letThrough(0, Gates.OTHER));
        check.throwsIndex("person ahead of closed", () -> gate.letThrough(0, 5));
    }

    private static void promise17Close() {
        AccessGate gate = Gates.inSession();
        check.throwsIndex("session 1", () -> gate.close(1));
        check.throwsIndex("session -1", () -> gate.close(-1));
        gate.open(Gates.ASKER, Gates.MACHINE);
        gate.type(0, AccessGate.PLAIN);
        gate.type(0, AccessGate.RISKY);
        gate.letThrough(0, Gates.OTHER);
        gate.type(0, AccessGate.PLAIN);
        gate.type(0, AccessGate.RISKY);
        check.same("two plain and one risky, the held one not", gate.close(0), 3);
        check.no("closed", gate.isOpen(0));
        check.yes("the other stays open", gate.isOpen(1));
        check.throwsState("closed before", () -> gate.close(0));
        check.same("no line", gate.close(1), 0);
        check.same("the right stays", gate.open(Gates.ASKER, Gates.MACHINE), 2);
        gate.pass(15);
        check.throwsState("closed by rest", () -> gate.close(2));
    }

    private static void promise18IsOpen() {
        AccessGate gate = Gates.granted(600);
        check.throwsIndex("session 0", () -> gate.isOpen(0));
        gate.open(Gates.ASKER, Gates.MACHINE);
        gate.open(Gates.ASKER, Gates.MACHINE);
        check.throwsIndex("session 2", () -> gate.isOpen(2));
        check.throwsIndex("session -1", () -> gate.isOpen(-1));
        check.yes("opened", gate.isOpen(0));
        gate.close(0);
        check.no("closed", gate.isOpen(0));
        check.yes("the other", gate.isOpen(1));
    }

    private static void promise19OpenSessions() {
        AccessGate gate = Gates.inSession();
        check.same("one", gate.openSessions(), 1);
        gate.open(Gates.ASKER, Gates.MACHINE);
        gate.enter(Gates.OTHER, Gates.MACHINE);
        gate.open(Gates.OTHER, Gates.MACHINE);
        check.same("three", gate.openSessions(), 3);
        check.throwsState("a throw opens none", () -> gate.open(Gates.MATE, Gates.MACHINE));
        gate.close(1);
        check.same("two", gate.openSessions(), 2);
        gate.takeAway(Gates.OTHER, Gates.MACHINE);
        check.same("one by a right taken away", gate.openSessions(), 1);
        gate.type(0, AccessGate.FORBIDDEN);
        check.same("none", gate.openSessions(), 0);
    }

    private static void promise20PassEndsByRest() {
        AccessGate gate = Gates.inSession();
        check.same("14 minutes", gate.pass(14), 0);
        gate.open(Gates.ASKER, Gates.MACHINE);
        gate.type(0, AccessGate.PLAIN);
        check.same("14 more", gate.pass(14), 0);
        gate.type(0, AccessGate.RISKY);
        check.same("the second rests", gate.pass(1), 1);
        check.yes("a line keeps the first open", gate.isOpen(0));
        check.throwsState("a line that throws is none", () -> gate.type(0, AccessGate.PLAIN));
        check.same("a held line too, for 15 minutes", gate.pass(13), 0);
        check.same("no longer", gate.pass(3000), 1);
        check.same("nothing is left", gate.pass(3000), 0);
    }

    private static void promise20PassEndsByTime() {
        AccessGate gate = Gates.granted(5);
        gate.open(Gates.ASKER, Gates.MACHINE);
        check.same("ahead of its end", gate.pass(4), 0);
        check.same("at its end", gate.pass(1), 1);
        Gates.grant(gate, Gates.ASKER, Gates.MACHINE, 5);
        gate.enter(Gates.ASKER, Gates.MACHINE);
        gate.open(Gates.ASKER, Gates.MACHINE);
        check.same("another right holds", gate.pass(10), 0);
        gate.open(Gates.ASKER, Gates.MACHINE);
        gate.type(1, AccessGate.PLAIN);
        gate.pass(10);
        gate.type(1, AccessGate.PLAIN);
        gate.type(2, AccessGate.PLAIN);
        check.same("both in the minute of its end", gate.pass(100), 2);
        check.same("with the time of that minute", gate.seal(gate.steps() - 1),
                (31L * gate.seal(gate.steps() - 2) + 6 + 2000L * 35) % 1000003);
    }

    private static void promise20PassThrows() {
        AccessGate gate = Gates.inSession();
        check.throwsArgument("0 minutes", () -> gate.pass(0));
        check.throwsArgument("-1 minutes", () -> gate.pass(-1));
        check.throwsArgument("3001 minutes", () -> gate.pass(3001));
        check.throwsArgument("the most minutes", () -> gate.pass(Integer.MAX_VALUE));
        for (int i = 0; i < 33; i++) {
            gate.pass(3000);
        }
        gate.pass(990);
        gate.enter(Gates.OTHER, Gates.MACHINE);
        gate.open(Gates.OTHER, Gates.MACHINE);
        check.throwsState("11 minutes too many", () -> gate.pass(3000));
        check.throwsArgument("range ahead of the clock", () -> gate.pass(3001));
        check.throwsState("one minute too many", () -> gate.pass(11));
        check.same("nothing changed", gate.clock(), 99990);
        check.yes("nothing is closed", gate.isOpen(1));
        check.same("to the last minute", gate.pass(10), 0);
        check.throwsState("behind the last minute", () -> gate.pass(1));
    }

    private static void promise21Clock() {
        AccessGate gate = Gates.staffed();
        check.same("at first", gate.clock(), 0);
        gate.pass(1);
        check.same("one minute", gate.clock(), 1);
        gate.pass(3000);
        check.same("3001 minutes", gate.clock(), 3001);
        gate.enter(Gates.ASKER, Gates.MACHINE);
        gate.open(Gates.ASKER, Gates.MACHINE);
        gate.pass(2);
        check.same("beside an open session", gate.clock(), 3003);
        gate.pass(2000);
        check.same("beside one that closes", gate.clock(), 5003);
    }
}
