/** Each sentence of the promises 14 to 24 has a test of its own here. */
public final class SessionSentencesTest {
    private static final Check check = new Check("SessionSentencesTest");
    private static final Sentences sentences = new Sentences(check, "Promise 14", "Promise 15", "Promise 16", "Promise 17",
            "Promise 18", "Promise 19", "Promise 20", "Promise 21", "Promise 22", "Promise 23", "Promise 24");

    private static final int ASKER = Gates.ASKER;
    private static final int MATE = Gates.MATE;
    private static final int OTHER = Gates.OTHER;
    private static final int THIRD = Gates.THIRD;
    private static final int BARE = Gates.BARE;
    private static final int MACHINE = Gates.MACHINE;
    private static final int TWIN = Gates.TWIN;
    private static final int STRANGE = Gates.STRANGE;

    private static final Refusals onNew = new Refusals(check, AccessGate::new);
    private static final Refusals onStaffed = new Refusals(check, Gates::staffed);
    private static final Refusals onBusy = new Refusals(check, Gates::busy);
    private static final Refusals onLast = new Refusals(check, Gates::atTheLastMinute);

    public static void main(String[] args) {
        open();
        type();
        letThrough();
        close();
        isOpen();
        openSessions();
        pass();
        clock();
        steps();
        kind();
        seal();
        sentences.end();
    }

    // ---- sessions

    private static void open() {
        String promise = "Promise 14";
        sentences.test(promise, "Opens a session.", () -> {
            AccessGate gate = Gates.granted(600);
            gate.open(ASKER, MACHINE);
            check.yes("it is open", gate.isOpen(0));
            check.same("just one", gate.openSessions(), 1);
            gate.open(ASKER, MACHINE);
            check.same("another one beside it", gate.openSessions(), 2);
        });
        sentences.test(promise, "Sessions are numbered from 0.", () -> {
            AccessGate gate = Gates.granted(600);
            check.throwsIndex("session 0 of none", () -> gate.isOpen(0));
            gate.open(ASKER, MACHINE);
            check.yes("session 0", gate.isOpen(0));
            check.throwsIndex("session 1", () -> gate.isOpen(1));
        });
        sentences.test(promise, "Returns its number.", () -> {
            AccessGate gate = Gates.granted(600);
            check.same("the first", gate.open(ASKER, MACHINE), 0);
            check.throwsState("none", () -> gate.open(MATE, MACHINE));
            gate.enter(MATE, TWIN);
            check.same("the next, of another person", gate.open(MATE, TWIN), 1);
            gate.close(0);
            check.same("the next, though one is closed", gate.open(ASKER, MACHINE), 2);
        });
        sentences.test(promise, "Throws `IndexOutOfBoundsException` if there is no such person or machine", () -> {
            onNew.noSuch("person", 0, (gate, person) -> gate.open(person, 0));
            onBusy.noSuch("person", 5, (gate, person) -> gate.open(person, MACHINE));
            onBusy.noSuch("machine", 3, (gate, machine) -> gate.open(ASKER, machine));
            onBusy.noSuch("machine, for who has no right,", 3, (gate, machine) -> gate.open(MATE, machine));
        });
        sentences.test(promise, "Throws `IllegalStateException` if no right of the person for the machine holds",
                SessionSentencesTest::openWithoutRight);
    }

    private static void openWithoutRight() {
        onStaffed.state("never one", gate -> gate.open(ASKER, MACHINE));
        onBusy.state("another person's", gate -> gate.open(THIRD, MACHINE));
        onBusy.state("for another machine", gate -> gate.open(ASKER, STRANGE));
        onBusy.state("one that has ended", gate -> gate.open(MATE, MACHINE));
        AccessGate gate = Gates.granted(5);
        gate.pass(4);
        check.same("in its last minute", gate.open(ASKER, MACHINE), 0);
        gate.pass(1);
        check.throwsState("at its end", () -> gate.open(ASKER, MACHINE));
        AccessGate taken = Gates.granted(5);
        taken.takeAway(ASKER, MACHINE);
        check.throwsState("one taken away", () -> taken.open(ASKER, MACHINE));
        AccessGate lost = Gates.granted(5);
        lost.setLabel(ASKER, 0, false);
        lost.setLabel(ASKER, 0, true);
        check.throwsState("one lost with the label", () -> lost.open(ASKER, MACHINE));
        AccessGate ended = Gates.inSession();
        ended.type(0, AccessGate.FORBIDDEN);
        check.throwsState("one ended by a forbidden line", () -> ended.open(ASKER, MACHINE));
        ended.enter(ASKER, MACHINE);
        check.same("a new one", ended.open(ASKER, MACHINE), 1);
    }

    private static void type() {
        String promise = "Promise 15";
        sentences.test(promise, "Types a line.", () -> {
            AccessGate gate = Gates.inSession();
            gate.open(ASKER, MACHINE);
            gate.pass(14);
            gate.type(1, AccessGate.PLAIN);
            gate.pass(1);
            check.no("not in this session", gate.isOpen(0));
            check.yes("in this one", gate.isOpen(1));
            check.same("one line", gate.close(1), 1);
        });
        sentences.test(promise, "- `kind`: PLAIN, RISKY or FORBIDDEN", () -> {
            for (int kind = AccessGate.PLAIN; kind <= AccessGate.FORBIDDEN; kind++) {
                AccessGate gate = Gates.inSession();
                gate.type(0, kind);
                check.same("each is a line", gate.kind(gate.steps() - (kind == AccessGate.FORBIDDEN ? 2 : 1)), 7);
                check.same("a forbidden one closes", gate.openSessions(), kind == AccessGate.FORBIDDEN ? 0 : 1);
            }
        });
        sentences.test(promise, "Returns whether it is let through.", () -> {
            AccessGate gate = Gates.inSession();
            check.yes("plain", gate.type(0, AccessGate.PLAIN));
            check.no("risky", gate.type(0, AccessGate.RISKY));
            gate.letThrough(0, OTHER);
            check.yes("plain again", gate.type(0, AccessGate.PLAIN));
            check.no("forbidden", gate.type(0, AccessGate.FORBIDDEN));
        });
        sentences.test(promise, "Throws `IndexOutOfBoundsException` if there is no such session", () -> {
            onNew.noSuch("session of none", 0, (gate, session) -> gate.type(session, AccessGate.PLAIN));
            onBusy.noSuch("session", 3, (gate, session) -> gate.type(session, AccessGate.FORBIDDEN));
            onBusy.noSuch("session, and no kind,", 3, (gate, session) -> gate.type(session, 3));
        });
        sentences.test(promise, "Throws `IllegalArgumentException` if kind is out of range", () -> {
            onBusy.outOfRange("kind", 0, 2, (gate, kind) -> gate.type(1, kind));
            onBusy.outOfRange("kind, with a held line", 0, 2, (gate, kind) -> gate.type(0, kind));
            onBusy.outOfRange("kind, in a closed session", 0, 2, (gate, kind) -> gate.type(2, kind));
        });
        sentences.test(promise, "Throws `IllegalStateException` if it is closed, or holds a line", () -> {
            for (int kind = AccessGate.PLAIN; kind <= AccessGate.FORBIDDEN; kind++) {
                int typed = kind;
                onBusy.state("closed, kind " + kind, gate -> gate.type(2, typed));
                onBusy.state("held, kind " + kind, gate -> gate.type(0, typed));
            }
            AccessGate gate = Gates.busy();
            gate.pass(13);
            check.throwsState("closed by rest, with a held line", () -> gate.type(0, AccessGate.PLAIN));
            check.throwsState("closed by rest", () -> gate.type(1, AccessGate.PLAIN));
        });
    }

    private static void letThrough() {
        String promise = "Promise 16";
        sentences.test(promise, "Lets a held line through.", () -> {
            AccessGate gate = Gates.busy();
            check.throwsState("held", () -> gate.type(0, AccessGate.PLAIN));
            gate.letThrough(0, OTHER);
            check.yes("held no more", gate.type(0, AccessGate.PLAIN));
            check.same("it counts", gate.close(0), 3);
        });
        sentences.test(promise, "- `by`: the person who does", () -> {
            AccessGate gate = Gates.busy();
            gate.letThrough(0, THIRD);
            int step = gate.steps() - 1;
            check.same("he is in the step", gate.seal(step),
                    (31L * gate.seal(step - 1) + 8 + 10 * THIRD + 2000 * 1443) % 1000003);
        });
        sentences.test(promise, "Returns for how many minutes it was held.", () -> {
            AccessGate gate = Gates.inSession();
            gate.pass(5);
            gate.type(0, AccessGate.RISKY);
            check.same("not a minute", gate.letThrough(0, OTHER), 0);
            gate.pass(3);
            gate.type(0, AccessGate.RISKY);
            gate.pass(1);
            check.same("one, not from the line before", gate.letThrough(0, OTHER), 1);
            gate.type(0, AccessGate.RISKY);
            gate.pass(14);
            check.same("the most", gate.letThrough(0, OTHER), 14);
        });
        sentences.test(promise, "Throws `IndexOutOfBoundsException` if there is no such session or person", () -> {
            onStaffed.noSuch("session of none", 0, (gate, session) -> gate.letThrough(session, OTHER));
            onBusy.noSuch("session", 3, (gate, session) -> gate.letThrough(session, OTHER));
            onBusy.noSuch("person", 5, (gate, person) -> gate.letThrough(0, person));
            onBusy.noSuch("person for a closed session", 5, (gate, person) -> gate.letThrough(2, person));
            onBusy.noSuch("person for no held line", 5, (gate, person) -> gate.letThrough(1, person));
        });
        sentences.test(promise, "Throws `IllegalStateException` if it is closed, holds no line, or the person cannot do that",
                () -> {
            onBusy.state("closed", gate -> gate.letThrough(2, OTHER));
            onBusy.state("no line", gate -> gate.letThrough(1, OTHER));
            onBusy.state("who typed it", gate -> gate.letThrough(0, ASKER));
            onBusy.state("of the team", gate -> gate.letThrough(0, MATE));
            onBusy.state("without the label", gate -> gate.letThrough(0, BARE));
            AccessGate gate = Gates.busy();
            gate.close(0);
            check.throwsState("closed with a held line", () -> gate.letThrough(0, OTHER));
            AccessGate resting = Gates.busy();
            resting.pass(13);
            check.throwsState("closed by rest with a held line", () -> resting.letThrough(0, OTHER));
            AccessGate twice = Gates.busy();
            twice.letThrough(0, OTHER);
            check.throwsState("let through by another before", () -> twice.letThrough(0, THIRD));
        });
    }

    private static void close() {
        String promise = "Promise 17";
        sentences.test(promise, "Closes a session.", () -> {
            AccessGate gate = Gates.busy();
            gate.close(1);
            check.no("this one", gate.isOpen(1));
            check.yes("no other", gate.isOpen(0));
            check.yes("the right stays", gate.couldEnter(ASKER, TWIN, 1443));
            gate.close(0);
            check.no("one that holds a line", gate.isOpen(0));
        });
        sentences.test(promise, "Returns how many lines were let through in it.", () -> {
            AccessGate gate = Gates.inSession();
            check.same("none", gate.close(0), 0);
            gate.open(ASKER, MACHINE);
            gate.open(ASKER, MACHINE);
            gate.type(1, AccessGate.RISKY);
            check.yes("in the other session", gate.type(2, AccessGate.PLAIN));
            check.same("a held one is not", gate.close(1), 0);
            gate.type(2, AccessGate.RISKY);
            gate.letThrough(2, OTHER);
            gate.type(2, AccessGate.PLAIN);
            gate.type(2, AccessGate.RISKY);
            check.same("two plain ones, and one let through", gate.close(2), 3);
        });
        sentences.test(promise, "Throws `IndexOutOfBoundsException` if there is no such session", () -> {
            onNew.noSuch("session of none", 0, AccessGate::close);
            onBusy.noSuch("session", 3, AccessGate::close);
        });
        sentences.test(promise, "Throws `IllegalStateException` if it is closed", SessionSentencesTest::closeClosed);
    }

    private static void closeClosed() {
        onBusy.state("closed", gate -> gate.close(2));
        AccessGate resting = Gates.inSession();
        resting.pass(15);
        check.throwsState("closed by rest", () -> resting.close(0));
        AccessGate expired = Gates.granted(5);
        expired.open(ASKER, MACHINE);
        expired.pass(5);
        check.throwsState("closed by time", () -> expired.close(0));
        AccessGate taken = Gates.inSession();
        taken.takeAway(ASKER, MACHINE);
        check.throwsState("closed by a right taken away", () -> taken.close(0));
        AccessGate lost = Gates.inSession();
        lost.setLabel(ASKER, 0, false);
        check.throwsState("closed by a label lost", () -> lost.close(0));
        AccessGate forbidden = Gates.inSession();
        forbidden.type(0, AccessGate.FORBIDDEN);
        check.throwsState("closed by a forbidden line", () -> forbidden.close(0));
    }

    private static void isOpen() {
        String promise = "Promise 18";
        sentences.test(promise, "Tells whether a session is open.", () -> {
            AccessGate gate = Gates.busy();
            check.yes("with a held line", gate.isOpen(0));
            check.yes("without one", gate.isOpen(1));
            check.no("closed", gate.isOpen(2));
            gate.pass(11);
            check.yes("14 minutes behind a line", gate.isOpen(1));
            gate.pass(1);
            check.no("15 minutes behind a line", gate.isOpen(1));
            check.yes("14 behind a held one", gate.isOpen(0));
            gate.pass(1);
            check.no("15 behind a held one", gate.isOpen(0));
        });
        sentences.test(promise, "Throws `IndexOutOfBoundsException` if there is no such session", () -> {
            onNew.noSuch("session of none", 0, AccessGate::isOpen);
            onBusy.noSuch("session", 3, AccessGate::isOpen);
        });
    }

    private static void openSessions() {
        sentences.test("Promise 19", "Returns the number of sessions that are open.", () -> {
            check.same("of a new object", new AccessGate().openSessions(), 0);
            AccessGate gate = Gates.busy();
            check.same("two of three", gate.openSessions(), 2);
            gate.open(ASKER, MACHINE);
            check.same("one opened", gate.openSessions(), 3);
            gate.pass(12);
            check.same("one closed by rest", gate.openSessions(), 2);
            gate.close(0);
            check.same("one closed", gate.openSessions(), 1);
            gate.type(3, AccessGate.FORBIDDEN);
            check.same("the last closed by a forbidden line", gate.openSessions(), 0);
            gate.pass(3000);
            check.same("not below none", gate.openSessions(), 0);
        });
    }

    // ---- time

    private static void pass() {
        String promise = "Promise 20";
        sentences.test(promise, "Lets minutes pass.", () -> {
            AccessGate gate = Gates.staffed();
            gate.pass(7);
            check.same("seven", gate.clock(), 7);
            gate.pass(1);
            check.same("and one", gate.clock(), 8);
            check.same("without a step", gate.steps(), 0);
        });
        sentences.test(promise, "- `minutes`: 1 to 3000", () -> {
            AccessGate gate = Gates.inSession();
            check.same("the least", gate.pass(1), 0);
            check.same("is one", gate.clock(), 1);
            check.same("the most", gate.pass(3000), 1);
            check.same("is 3000", gate.clock(), 3001);
        });
        sentences.test(promise, "Returns how many sessions are closed in them.", SessionSentencesTest::closedInMinutes);
        sentences.test(promise, "Throws `IllegalArgumentException` if minutes is out of range", () -> {
            onNew.outOfRange("minutes", 1, 3000, AccessGate::pass);
            onBusy.outOfRange("minutes with open sessions", 1, 3000, AccessGate::pass);
            onLast.outOfRange("minutes behind the last", 1, 3000, AccessGate::pass);
        });
        sentences.test(promise, "Throws `IllegalStateException` if the clock would be above 100000", () -> {
            onLast.state("1 minute", gate -> gate.pass(1));
            onLast.state("3000 minutes", gate -> gate.pass(3000));
            Refusals near = new Refusals(check, SessionSentencesTest::inSessionNearTheEnd);
            near.state("21 minutes, in the first of which sessions would close", gate -> gate.pass(21));
            near.state("3000 minutes, at 99980", gate -> gate.pass(3000));
            AccessGate gate = inSessionNearTheEnd();
            check.same("20 minutes", gate.pass(20), 1);
            check.same("just to the end", gate.clock(), 100000);
            AccessGate far = Gates.staffed();
            Gates.passTo(far, 97000);
            check.same("the most minutes", far.pass(3000), 0);
            check.same("just to the end with them", far.clock(), 100000);
        });
    }

    private static AccessGate inSessionNearTheEnd() {
        AccessGate gate = Gates.staffed();
        Gates.passTo(gate, 99980);
        gate.enter(ASKER, MACHINE);
        gate.open(ASKER, MACHINE);
        return gate;
    }

    private static void closedInMinutes() {
        AccessGate gate = Gates.busy();
        check.same("none yet", gate.pass(11), 0);
        check.same("one in its minute", gate.pass(1), 1);
        check.same("the other in the next", gate.pass(1), 1);
        check.same("none is left", gate.pass(3000), 0);
        check.same("of none", new AccessGate().pass(3000), 0);
        check.same("in different minutes", Gates.busy().pass(3000), 2);
        AccessGate both = Gates.granted(15);
        both.open(ASKER, MACHINE);
        check.same("by time and by rest in one minute, once", both.pass(15), 1);
        check.same("a single step", both.steps(), 5);
        AccessGate closed = Gates.inSession();
        closed.close(0);
        check.same("not what was closed ahead of them", closed.pass(15), 0);
    }

    private static void clock() {
        sentences.test("Promise 21", "Returns the clock.", () -> {
            AccessGate gate = Gates.inSession();
            check.same("at first", gate.clock(), 0);
            gate.pass(10);
            check.same("with an open session", gate.clock(), 10);
            gate.pass(3000);
            check.same("with one that closes", gate.clock(), 3010);
            check.throwsArgument("a refused minute", () -> gate.pass(0));
            check.same("does not count", gate.clock(), 3010);
            Gates.passTo(gate, 100000);
            check.same("at last", gate.clock(), 100000);
        });
    }

    // ---- record

    private static void steps() {
        sentences.test("Promise 22", "Returns the number of steps.", () -> {
            check.same("of a new object", new AccessGate().steps(), 0);
            AccessGate gate = Gates.staffed();
            check.same("people, machines and labels are none", gate.steps(), 0);
            gate.pass(1);
            check.same("a minute is none", gate.steps(), 0);
            gate.ask(ASKER, MACHINE, 5);
            check.same("an ask is one", gate.steps(), 1);
            check.throwsState("refused", () -> gate.approve(0, ASKER));
            check.same("a refused call is none", gate.steps(), 1);
            gate.pass(60);
            check.same("a lapse is none", gate.steps(), 1);
        });
    }

    private static void kind() {
        String promise = "Promise 23";
        sentences.test(promise, "Returns the kind of a step.", () -> {
            AccessGate gate = Gates.busy();
            int[] kinds = {3, 3, 4, 0, 0, 1, 1, 0, 2, 0, 1, 0, 3, 5, 7, 5, 7, 5, 6, 7};
            check.same("steps", gate.steps(), kinds.length);
            for (int step = 0; step < kinds.length; step++) {
                check.same("step " + step, gate.kind(step), kinds[step]);
            }
            gate.letThrough(0, OTHER);
            check.same("a line let through", gate.kind(kinds.length), 8);
        });
        sentences.test(promise, "Throws `IndexOutOfBoundsException` if there is no such step", () -> {
            onNew.noSuch("step of none", 0, AccessGate::kind);
            onBusy.noSuch("step", 20, AccessGate::kind);
        });
    }

    private static void seal() {
        String promise = "Promise 24";
        sentences.test(promise, "Returns the seal of a step.", () -> {
            AccessGate gate = Gates.staffed();
            gate.ask(ASKER, TWIN, 5);
            check.same("31 + 0 + 200", gate.seal(0), 231);
            gate.pass(2);
            gate.approve(0, OTHER);
            check.same("31 * 231 + 1 + 20 + 200 + 4000", gate.seal(1), 11382);
            gate.approve(0, THIRD);
            check.same("31 * 11382 + 1 + 30 + 200 + 4000", gate.seal(2), 357073);
            gate.open(ASKER, TWIN);
            check.same("31 * 357073 + 5 + 200 + 4000, less 11 * 1000003", gate.seal(3), 73435);
            check.same("the first stays", gate.seal(0), 231);
        });
        sentences.test(promise, "Throws `IndexOutOfBoundsException` if there is no such step", () -> {
            onNew.noSuch("step of none", 0, AccessGate::seal);
            onBusy.noSuch("step", 20, AccessGate::seal);
        });
    }
}
