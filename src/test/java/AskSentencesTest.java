/** Each sentence of the promises 1 to 13 has a test of its own here. */
public final class AskSentencesTest {
    private static final Check check = new Check("AskSentencesTest");
    private static final Sentences sentences = new Sentences(check, "Promise 1", "Promise 2", "Promise 3", "Promise 4",
            "Promise 5", "Promise 6", "Promise 7", "Promise 8", "Promise 9", "Promise 10", "Promise 11", "Promise 12",
            "Promise 13");

    private static final int ASKER = Gates.ASKER;
    private static final int MATE = Gates.MATE;
    private static final int OTHER = Gates.OTHER;
    private static final int THIRD = Gates.THIRD;
    private static final int BARE = Gates.BARE;
    private static final int MACHINE = Gates.MACHINE;
    private static final int TWIN = Gates.TWIN;
    private static final int STRANGE = Gates.STRANGE;

    private static final Refusals onNew = new Refusals(check, AccessGate::new);
    private static final Refusals onStaffed = new Refusals(check, Gates::staffed);
    private static final Refusals onBusy = new Refusals(check, Gates::busy);

    public static void main(String[] args) {
        newObject();
        addPerson();
        addMachine();
        setLabel();
        takeAway();
        ask();
        approve();
        deny();
        askState();
        enter();
        lookAt();
        overdue();
        couldEnter();
        sentences.end();
    }

    private static void newObject() {
        sentences.test("Promise 1", "No people and machines; it is the minute 0.", () -> {
            AccessGate gate = new AccessGate();
            check.same("the minute", gate.clock(), 0);
            check.same("steps", gate.steps(), 0);
            check.same("open sessions", gate.openSessions(), 0);
            onNew.noSuch("person", 0, AccessGate::overdue);
            onNew.noSuch("ask", 0, AccessGate::askState);
            onNew.noSuch("session", 0, AccessGate::isOpen);
            onNew.noSuch("step", 0, AccessGate::kind);
            Refusals onePerson = new Refusals(check, () -> {
                AccessGate other = new AccessGate();
                other.addPerson(0);
                return other;
            });
            onePerson.noSuch("machine", 0, (other, machine) -> other.takeAway(0, machine));
            onePerson.noSuch("entry", 0, (other, entry) -> other.lookAt(entry, 0));
            check.same("the first person", gate.addPerson(0), 0);
            check.same("the first machine", gate.addMachine(0), 0);
        });
    }

    // ---- people and machines

    private static AccessGate fullOfPeople() {
        AccessGate gate = Gates.staffed();
        for (int i = 5; i < 12; i++) {
            gate.addPerson(3);
        }
        return gate;
    }

    private static AccessGate fullOfMachines() {
        AccessGate gate = Gates.staffed();
        for (int i = 3; i < 8; i++) {
            gate.addMachine(3);
        }
        return gate;
    }

    private static void addPerson() {
        String promise = "Promise 2";
        sentences.test(promise, "Adds a person.", () -> {
            AccessGate gate = Gates.staffed();
            check.throwsIndex("not yet there", () -> gate.overdue(5));
            gate.addPerson(1);
            check.same("there", gate.overdue(5), 0);
            check.throwsIndex("just one", () -> gate.overdue(6));
        });
        sentences.test(promise, "- `team`: 0 to 3", () -> {
            for (int team = 0; team <= 3; team++) {
                AccessGate gate = Gates.busy();
                int person = gate.addPerson(team);
                gate.setLabel(person, 0, true);
                if (team == 0) {
                    check.throwsState("of the team that asks", () -> gate.approve(4, person));
                } else {
                    check.no("of another team, " + team, gate.approve(4, person));
                }
            }
        });
        sentences.test(promise, "Returns the number of the person.", () -> {
            AccessGate gate = new AccessGate();
            check.same("the first", gate.addPerson(2), 0);
            check.throwsArgument("none", () -> gate.addPerson(4));
            check.same("the next, whatever the team", gate.addPerson(2), 1);
        });
        sentences.test(promise, "Throws `IllegalArgumentException` if team is out of range", () -> {
            onNew.outOfRange("team", 0, 3, AccessGate::addPerson);
            onBusy.outOfRange("team", 0, 3, AccessGate::addPerson);
        });
        sentences.test(promise, "Throws `IllegalStateException` if there are 12", () -> {
            AccessGate gate = new AccessGate();
            for (int i = 0; i < 12; i++) {
                check.same("a person", gate.addPerson(i % 4), i);
            }
            Refusals onFull = new Refusals(check, AskSentencesTest::fullOfPeople);
            for (int team = 0; team <= 3; team++) {
                int of = team;
                check.throwsState("team " + team, () -> gate.addPerson(of));
                onFull.state("one more of team " + team, full -> full.addPerson(of));
            }
        });
    }

    private static void addMachine() {
        String promise = "Promise 3";
        sentences.test(promise, "Adds a machine.", () -> {
            AccessGate gate = Gates.staffed();
            check.throwsIndex("not yet there", () -> gate.takeAway(ASKER, 3));
            gate.addMachine(0);
            check.same("there", gate.ask(ASKER, 3, 5), 0);
            check.throwsIndex("just one", () -> gate.takeAway(ASKER, 4));
        });
        sentences.test(promise, "- `label`: 0 to 3", () -> {
            for (int label = 0; label <= 3; label++) {
                AccessGate gate = Gates.staffed();
                int machine = gate.addMachine(label);
                if (label > 0) {
                    check.throwsState("label " + label, () -> gate.ask(ASKER, machine, 5));
                    gate.setLabel(ASKER, label, true);
                }
                check.same("with label " + label, gate.ask(ASKER, machine, 5), 0);
            }
        });
        sentences.test(promise, "Returns its number.", () -> {
            AccessGate gate = new AccessGate();
            check.same("the first", gate.addMachine(2), 0);
            check.throwsArgument("none", () -> gate.addMachine(4));
            check.same("the next, whatever the label", gate.addMachine(2), 1);
        });
        sentences.test(promise, "Throws `IllegalArgumentException` if label is out of range", () -> {
            onNew.outOfRange("label", 0, 3, AccessGate::addMachine);
            onBusy.outOfRange("label", 0, 3, AccessGate::addMachine);
        });
        sentences.test(promise, "Throws `IllegalStateException` if there are 8", () -> {
            AccessGate gate = new AccessGate();
            for (int i = 0; i < 8; i++) {
                check.same("a machine", gate.addMachine(i % 4), i);
            }
            Refusals onFull = new Refusals(check, AskSentencesTest::fullOfMachines);
            for (int label = 0; label <= 3; label++) {
                int of = label;
                check.throwsState("label " + label, () -> gate.addMachine(of));
                onFull.state("one more of label " + label, full -> full.addMachine(of));
            }
        });
    }

    private static void setLabel() {
        String promise = "Promise 4";
        sentences.test(promise, "Gives a person a label, or takes it away.", () -> {
            AccessGate gate = Gates.staffed();
            gate.setLabel(BARE, 0, true);
            check.same("given", gate.ask(BARE, MACHINE, 5), 0);
            gate.setLabel(BARE, 0, false);
            check.throwsState("taken away", () -> gate.ask(BARE, MACHINE, 5));
            gate.setLabel(BARE, 0, true);
            check.same("given again", gate.ask(BARE, MACHINE, 5), 1);
            check.same("another person's stays", gate.ask(ASKER, MACHINE, 5), 2);
        });
        sentences.test(promise, "- `label`: 0 to 3", () -> {
            for (int label = 0; label <= 3; label++) {
                AccessGate gate = fourMachines();
                gate.setLabel(0, label, true);
                for (int machine = 0; machine <= 3; machine++) {
                    int where = machine;
                    if (machine == label) {
                        check.same("with label " + label, gate.ask(0, machine, 5), 0);
                    } else {
                        check.throwsState("with no other", () -> gate.ask(0, where, 5));
                    }
                }
            }
        });
        sentences.test(promise, "- `has`: whether the person has it then", () -> {
            AccessGate gate = Gates.inSession();
            check.same("true, though he has it", gate.setLabel(ASKER, 0, true), 0);
            check.yes("takes nothing away", gate.isOpen(0));
            check.same("true once is enough", gate.setLabel(ASKER, 0, false), 1);
            check.same("false, though he has it not", gate.setLabel(ASKER, 0, false), 0);
            check.throwsState("false", () -> gate.ask(ASKER, MACHINE, 5));
            gate.setLabel(ASKER, 0, true);
            check.same("true once is enough again", gate.ask(ASKER, MACHINE, 5), 1);
            check.throwsState("but the right is gone", () -> gate.open(ASKER, MACHINE));
        });
        sentences.test(promise, "Returns how many sessions are closed by that.", () -> {
            AccessGate gate = Gates.busy();
            check.same("none by a label given", gate.setLabel(ASKER, 3, true), 0);
            check.same("none by a label of no machine", gate.setLabel(ASKER, 3, false), 0);
            check.same("none of another person", gate.setLabel(OTHER, 0, false), 0);
            check.same("on each machine, but the closed one", gate.setLabel(ASKER, 0, false), 2);
            check.same("open ones then", gate.openSessions(), 0);
            check.same("none any more", gate.setLabel(ASKER, 0, false), 0);
        });
        sentences.test(promise, "Throws `IndexOutOfBoundsException` if there is no such person", () -> {
            onNew.noSuch("person", 0, (gate, person) -> gate.setLabel(person, 0, true));
            onBusy.noSuch("person", 5, (gate, person) -> gate.setLabel(person, 0, true));
            onBusy.noSuch("person", 5, (gate, person) -> gate.setLabel(person, 0, false));
            onBusy.noSuch("person, of no label,", 5, (gate, person) -> gate.setLabel(person, 4, false));
        });
        sentences.test(promise, "Throws `IllegalArgumentException` if label is out of range", () -> {
            onBusy.outOfRange("label given", 0, 3, (gate, label) -> gate.setLabel(ASKER, label, true));
            onBusy.outOfRange("label taken away", 0, 3, (gate, label) -> gate.setLabel(ASKER, label, false));
            onBusy.argument("32, a whole turn of bits", gate -> gate.setLabel(ASKER, 32, false));
        });
    }

    /** One person without a label, and a machine of each label. */
    private static AccessGate fourMachines() {
        AccessGate gate = new AccessGate();
        gate.addPerson(0);
        for (int label = 0; label <= 3; label++) {
            gate.addMachine(label);
        }
        return gate;
    }

    private static void takeAway() {
        String promise = "Promise 5";
        sentences.test(promise, "Takes all rights of a person for a machine away that hold.", () -> {
            AccessGate gate = Gates.granted(5);
            gate.pass(10);
            Gates.grant(gate, ASKER, MACHINE, 600);
            Gates.grant(gate, ASKER, MACHINE, 300);
            gate.enter(ASKER, MACHINE);
            gate.enter(ASKER, TWIN);
            gate.enter(MATE, MACHINE);
            gate.pass(2);
            gate.takeAway(ASKER, MACHINE);
            check.yes("all held until now", gate.couldEnter(ASKER, MACHINE, 11));
            for (int time : new int[] {12, 39, 300, 609}) {
                check.no("none holds at " + time, gate.couldEnter(ASKER, MACHINE, time));
            }
            check.yes("for another machine", gate.couldEnter(ASKER, TWIN, 12));
            check.yes("of another person", gate.couldEnter(MATE, MACHINE, 12));
            check.yes("one that held long ago", gate.couldEnter(ASKER, MACHINE, 4));
            check.no("is not made longer", gate.couldEnter(ASKER, MACHINE, 5));
        });
        sentences.test(promise, "Returns how many sessions are closed by that.", () -> {
            AccessGate gate = Gates.busy();
            gate.open(ASKER, MACHINE);
            check.same("none of another person", gate.takeAway(MATE, MACHINE), 0);
            check.same("none on another machine", gate.takeAway(ASKER, STRANGE), 0);
            check.same("two, but not the closed one", gate.takeAway(ASKER, MACHINE), 2);
            check.same("none any more", gate.takeAway(ASKER, MACHINE), 0);
            check.same("one on the twin", gate.takeAway(ASKER, TWIN), 1);
        });
        sentences.test(promise, "Throws `IndexOutOfBoundsException` if there is no such person or machine", () -> {
            onNew.noSuch("person", 0, (gate, person) -> gate.takeAway(person, 0));
            onBusy.noSuch("person", 5, (gate, person) -> gate.takeAway(person, MACHINE));
            onBusy.noSuch("machine", 3, (gate, machine) -> gate.takeAway(ASKER, machine));
            onBusy.noSuch("person for no machine", 5, (gate, person) -> gate.takeAway(person, 3));
        });
    }

    // ---- asks

    private static void ask() {
        String promise = "Promise 6";
        sentences.test(promise, "Asks for a machine.", () -> {
            AccessGate gate = Gates.staffed();
            gate.ask(ASKER, TWIN, 5);
            check.same("it waits", gate.askState(0), AccessGate.WAITING);
            gate.approve(0, OTHER);
            gate.approve(0, THIRD);
            check.yes("for this machine", gate.couldEnter(ASKER, TWIN, 0));
            check.no("for no other", gate.couldEnter(ASKER, MACHINE, 0));
            check.no("for nobody else", gate.couldEnter(MATE, TWIN, 0));
        });
        sentences.test(promise, "Asks are numbered from 0.", () -> {
            AccessGate gate = Gates.staffed();
            check.throwsIndex("ask 0 of none", () -> gate.askState(0));
            gate.ask(ASKER, MACHINE, 5);
            check.same("ask 0", gate.askState(0), AccessGate.WAITING);
            check.throwsIndex("ask 1", () -> gate.askState(1));
        });
        sentences.test(promise, "- `minutes`: 1 to 600", () -> {
            AccessGate gate = Gates.granted(1);
            check.yes("1 minute", gate.couldEnter(ASKER, MACHINE, 0));
            check.no("no more than 1", gate.couldEnter(ASKER, MACHINE, 1));
            gate = Gates.granted(600);
            check.yes("600 minutes", gate.couldEnter(ASKER, MACHINE, 599));
            check.no("no more than 600", gate.couldEnter(ASKER, MACHINE, 600));
        });
        sentences.test(promise, "Returns the number of the ask.", () -> {
            AccessGate gate = Gates.staffed();
            check.same("the first", gate.ask(ASKER, MACHINE, 5), 0);
            check.throwsState("none", () -> gate.ask(BARE, MACHINE, 5));
            check.same("the next, of another person", gate.ask(MATE, TWIN, 5), 1);
            gate.pass(60);
            check.same("the next, though those have lapsed", gate.ask(ASKER, MACHINE, 5), 2);
        });
        sentences.test(promise, "Throws `IndexOutOfBoundsException` if there is no such person or machine", () -> {
            onNew.noSuch("person", 0, (gate, person) -> gate.ask(person, 0, 5));
            onBusy.noSuch("person", 5, (gate, person) -> gate.ask(person, MACHINE, 5));
            onBusy.noSuch("machine", 3, (gate, machine) -> gate.ask(ASKER, machine, 5));
            onBusy.noSuch("machine, for 0 minutes,", 3, (gate, machine) -> gate.ask(ASKER, machine, 0));
        });
        sentences.test(promise, "Throws `IllegalArgumentException` if minutes is out of range", () -> {
            onStaffed.outOfRange("minutes", 1, 600, (gate, minutes) -> gate.ask(ASKER, MACHINE, minutes));
            onBusy.outOfRange("minutes with an overdue entry", 1, 600, (gate, minutes) -> gate.ask(MATE, MACHINE, minutes));
            onBusy.argument("-600 minutes", gate -> gate.ask(ASKER, MACHINE, -600));
        });
        sentences.test(promise, "Throws `IllegalStateException` if the person does not have the label, or has an overdue entry",
                AskSentencesTest::askBarred);
    }

    private static void askBarred() {
        onStaffed.state("no label", gate -> gate.ask(BARE, MACHINE, 1));
        onStaffed.state("another label", gate -> gate.ask(ASKER, STRANGE, 600));
        onBusy.state("an overdue entry", gate -> gate.ask(MATE, MACHINE, 1));
        onBusy.state("an overdue entry of another machine", gate -> gate.ask(MATE, TWIN, 1));
        onBusy.state("no label, and an overdue entry", gate -> gate.ask(MATE, STRANGE, 1));
        AccessGate gate = Gates.staffed();
        gate.enter(ASKER, MACHINE);
        gate.pass(1439);
        check.same("an entry of 1439 minutes ago", gate.ask(ASKER, MACHINE, 1), 0);
        gate.pass(1);
        check.throwsState("an entry of 1440 minutes ago", () -> gate.ask(ASKER, MACHINE, 1));
    }

    private static void approve() {
        String promise = "Promise 7";
        sentences.test(promise, "Approves an ask.", () -> {
            AccessGate gate = Gates.busy();
            gate.approve(4, THIRD);
            check.same("this one has one approval", gate.askState(4), AccessGate.WAITING);
            gate.approve(4, OTHER);
            check.same("then two", gate.askState(4), AccessGate.APPROVED);
            check.same("the other ask has its own", gate.askState(3), AccessGate.WAITING);
        });
        sentences.test(promise, "- `by`: the person who approves", () -> {
            AccessGate gate = Gates.busy();
            gate.approve(4, THIRD);
            check.throwsState("he has approved", () -> gate.approve(4, THIRD));
            int step = gate.steps() - 1;
            check.same("he is in the step", gate.seal(step), (31L * gate.seal(step - 1) + 1 + 10 * THIRD + 2000 * 1443) % 1000003);
            check.yes("another has not", gate.approve(4, OTHER));
        });
        sentences.test(promise, "Returns whether it is approved then.", () -> {
            AccessGate gate = Gates.staffed();
            gate.ask(ASKER, MACHINE, 5);
            check.no("by one", gate.approve(0, THIRD));
            check.yes("by two", gate.approve(0, OTHER));
        });
        sentences.test(promise, "Throws `IndexOutOfBoundsException` if there is no such ask or person", () -> {
            onStaffed.noSuch("ask of none", 0, (gate, ask) -> gate.approve(ask, OTHER));
            onBusy.noSuch("ask", 5, (gate, ask) -> gate.approve(ask, OTHER));
            onBusy.noSuch("person", 5, (gate, person) -> gate.approve(4, person));
            onBusy.noSuch("person for an ask that does not wait", 5, (gate, person) -> gate.approve(1, person));
        });
        sentences.test(promise, "Throws `IllegalStateException` if it does not wait, or the person cannot approve it, or "
                + "has approved it", () -> {
            onBusy.state("lapsed", gate -> gate.approve(0, THIRD));
            onBusy.state("approved", gate -> gate.approve(1, THIRD));
            onBusy.state("denied", gate -> gate.approve(2, THIRD));
            onBusy.state("by who asked", gate -> gate.approve(3, ASKER));
            onBusy.state("by the team", gate -> gate.approve(3, MATE));
            onBusy.state("without the label", gate -> gate.approve(3, BARE));
            onBusy.state("by who has approved it", gate -> gate.approve(3, OTHER));
            AccessGate gate = Gates.busy();
            gate.pass(57);
            check.throwsState("in the minute in which it lapses", () -> gate.approve(3, THIRD));
        });
    }

    private static void deny() {
        String promise = "Promise 8";
        sentences.test(promise, "Denies an ask.", () -> {
            AccessGate gate = Gates.busy();
            gate.deny(4, OTHER);
            check.same("this one", gate.askState(4), AccessGate.DENIED);
            check.same("no other one", gate.askState(3), AccessGate.WAITING);
        });
        sentences.test(promise, "- `by`: the person who denies", () -> {
            AccessGate gate = Gates.busy();
            gate.deny(3, THIRD);
            int step = gate.steps() - 1;
            check.same("he is in the step", gate.seal(step),
                    (31L * gate.seal(step - 1) + 2 + 10 * THIRD + 200 * TWIN + 2000 * 1443) % 1000003);
        });
        sentences.test(promise, "Throws `IndexOutOfBoundsException` if there is no such ask or person", () -> {
            onStaffed.noSuch("ask of none", 0, (gate, ask) -> gate.deny(ask, OTHER));
            onBusy.noSuch("ask", 5, (gate, ask) -> gate.deny(ask, OTHER));
            onBusy.noSuch("person", 5, (gate, person) -> gate.deny(4, person));
            onBusy.noSuch("person for an ask that does not wait", 5, (gate, person) -> gate.deny(2, person));
        });
        sentences.test(promise, "Throws `IllegalStateException` if it does not wait, or the person could not approve it, "
                + "whether the person has approved it or not", () -> {
            onBusy.state("lapsed", gate -> gate.deny(0, THIRD));
            onBusy.state("approved", gate -> gate.deny(1, THIRD));
            onBusy.state("denied", gate -> gate.deny(2, THIRD));
            onBusy.state("by who asked", gate -> gate.deny(3, ASKER));
            onBusy.state("by the team", gate -> gate.deny(3, MATE));
            onBusy.state("without the label", gate -> gate.deny(3, BARE));
            AccessGate gate = Gates.busy();
            gate.deny(3, OTHER);
            check.same("by who has approved it", gate.askState(3), AccessGate.DENIED);
            AccessGate lost = Gates.busy();
            lost.setLabel(OTHER, 0, false);
            check.throwsState("by who has approved it, and lost the label", () -> lost.deny(3, OTHER));
        });
    }

    private static void askState() {
        String promise = "Promise 9";
        sentences.test(promise, "Returns the state of an ask.", () -> {
            AccessGate gate = Gates.busy();
            check.same("lapsed", gate.askState(0), AccessGate.LAPSED);
            check.same("approved", gate.askState(1), AccessGate.APPROVED);
            check.same("denied", gate.askState(2), AccessGate.DENIED);
            check.same("approved by one", gate.askState(3), AccessGate.WAITING);
            check.same("by none", gate.askState(4), AccessGate.WAITING);
            gate.pass(56);
            check.same("for 59 minutes", gate.askState(3), AccessGate.WAITING);
            gate.pass(1);
            check.same("for 60 minutes", gate.askState(3), AccessGate.LAPSED);
            check.same("approved for good", gate.askState(1), AccessGate.APPROVED);
            check.same("denied for good", gate.askState(2), AccessGate.DENIED);
        });
        sentences.test(promise, "Throws `IndexOutOfBoundsException` if there is no such ask", () -> {
            onNew.noSuch("ask of none", 0, AccessGate::askState);
            onBusy.noSuch("ask", 5, AccessGate::askState);
        });
    }

    // ---- entries and rights

    private static void enter() {
        String promise = "Promise 10";
        sentences.test(promise, "Enters a machine in an emergency.", () -> {
            AccessGate gate = Gates.staffed();
            gate.enter(ASKER, TWIN);
            check.yes("this machine", gate.couldEnter(ASKER, TWIN, 0));
            check.no("no other", gate.couldEnter(ASKER, MACHINE, 0));
            check.no("nobody else", gate.couldEnter(MATE, TWIN, 0));
            check.same("without an ask", gate.open(ASKER, TWIN), 0);
        });
        sentences.test(promise, "Returns the number of the entry.", () -> {
            AccessGate gate = Gates.staffed();
            check.same("the first", gate.enter(ASKER, MACHINE), 0);
            check.throwsState("none", () -> gate.enter(BARE, MACHINE));
            check.same("the next, of the same machine", gate.enter(ASKER, MACHINE), 1);
            check.same("the next, of another person", gate.enter(MATE, TWIN), 2);
        });
        sentences.test(promise, "Throws `IndexOutOfBoundsException` if there is no such person or machine", () -> {
            onNew.noSuch("person", 0, (gate, person) -> gate.enter(person, 0));
            onBusy.noSuch("person", 5, (gate, person) -> gate.enter(person, MACHINE));
            onBusy.noSuch("machine", 3, (gate, machine) -> gate.enter(ASKER, machine));
            onBusy.noSuch("machine, with an overdue entry,", 3, (gate, machine) -> gate.enter(MATE, machine));
        });
        sentences.test(promise, "Throws `IllegalStateException` if the person does not have the label, or has an overdue "
                + "entry", () -> {
            onStaffed.state("no label", gate -> gate.enter(BARE, MACHINE));
            onStaffed.state("another label", gate -> gate.enter(ASKER, STRANGE));
            onBusy.state("an overdue entry", gate -> gate.enter(MATE, MACHINE));
            onBusy.state("an overdue entry of another machine", gate -> gate.enter(MATE, TWIN));
            AccessGate gate = Gates.staffed();
            gate.enter(ASKER, MACHINE);
            gate.pass(1439);
            check.same("an entry of 1439 minutes ago", gate.enter(ASKER, MACHINE), 1);
            gate.pass(1);
            check.throwsState("an entry of 1440 minutes ago", () -> gate.enter(ASKER, MACHINE));
        });
    }

    private static void lookAt() {
        String promise = "Promise 11";
        sentences.test(promise, "Looks at an entry.", () -> {
            AccessGate gate = Gates.busy();
            check.same("overdue", gate.overdue(MATE), 1);
            gate.lookAt(2, OTHER);
            check.same("another entry does not count", gate.overdue(MATE), 1);
            gate.lookAt(0, OTHER);
            check.same("this one does", gate.overdue(MATE), 0);
            check.yes("a right stays", gate.couldEnter(ASKER, TWIN, 1443));
        });
        sentences.test(promise, "- `by`: the person who does", () -> {
            AccessGate gate = Gates.busy();
            gate.lookAt(2, BARE);
            int step = gate.steps() - 1;
            check.same("he is in the step, though without a label", gate.seal(step),
                    (31L * gate.seal(step - 1) + 4 + 10 * BARE + 200 * TWIN + 2000 * 1443) % 1000003);
        });
        sentences.test(promise, "Returns after how many minutes.", () -> {
            AccessGate gate = Gates.staffed();
            gate.enter(ASKER, MACHINE);
            gate.enter(ASKER, MACHINE);
            gate.enter(ASKER, MACHINE);
            check.same("at once", gate.lookAt(0, OTHER), 0);
            gate.pass(1);
            check.same("in the next minute", gate.lookAt(1, OTHER), 1);
            Gates.passTo(gate, 100000);
            check.same("in the last minute", gate.lookAt(2, OTHER), 100000);
        });
        sentences.test(promise, "Throws `IndexOutOfBoundsException` if there is no such entry or person", () -> {
            onStaffed.noSuch("entry of none", 0, (gate, entry) -> gate.lookAt(entry, OTHER));
            onBusy.noSuch("entry", 3, (gate, entry) -> gate.lookAt(entry, OTHER));
            onBusy.noSuch("person", 5, (gate, person) -> gate.lookAt(2, person));
            onBusy.noSuch("person for an entry that is looked at", 5, (gate, person) -> gate.lookAt(1, person));
        });
        sentences.test(promise, "Throws `IllegalStateException` if somebody has, or the person is of the team of the one "
                + "who entered", () -> {
            onBusy.state("somebody has", gate -> gate.lookAt(1, OTHER));
            onBusy.state("he himself has", gate -> gate.lookAt(1, BARE));
            onBusy.state("who entered", gate -> gate.lookAt(2, ASKER));
            onBusy.state("of the team", gate -> gate.lookAt(2, MATE));
            onBusy.state("of the team, overdue", gate -> gate.lookAt(0, ASKER));
        });
    }

    private static void overdue() {
        String promise = "Promise 12";
        sentences.test(promise, "Returns the number of overdue entries of a person.", () -> {
            AccessGate gate = Gates.staffed();
            check.same("of none", gate.overdue(ASKER), 0);
            gate.enter(ASKER, MACHINE);
            gate.enter(ASKER, TWIN);
            gate.pass(1);
            gate.enter(ASKER, TWIN);
            gate.enter(MATE, TWIN);
            gate.pass(1438);
            check.same("after 1439 minutes", gate.overdue(ASKER), 0);
            gate.pass(1);
            check.same("after 1440, but not those after 1439", gate.overdue(ASKER), 2);
            gate.lookAt(1, OTHER);
            check.same("but one is looked at", gate.overdue(ASKER), 1);
            gate.pass(1);
            check.same("the last one too", gate.overdue(ASKER), 2);
            check.same("the mate's own", gate.overdue(MATE), 1);
            check.same("nobody else's", gate.overdue(OTHER), 0);
        });
        sentences.test(promise, "Throws `IndexOutOfBoundsException` if there is no such person", () -> {
            onNew.noSuch("person", 0, AccessGate::overdue);
            onBusy.noSuch("person", 5, AccessGate::overdue);
        });
    }

    private static void couldEnter() {
        String promise = "Promise 13";
        sentences.test(promise, "Tells whether a right of a person for a machine held at a time, as far as is known now.",
                () -> {
            AccessGate gate = Gates.staffed();
            gate.pass(5);
            check.no("nothing is known yet", gate.couldEnter(ASKER, MACHINE, 5));
            gate.enter(ASKER, MACHINE);
            gate.pass(100);
            check.no("ahead of it", gate.couldEnter(ASKER, MACHINE, 4));
            check.yes("its first minute, long ago", gate.couldEnter(ASKER, MACHINE, 5));
            check.yes("its last minute, long ago", gate.couldEnter(ASKER, MACHINE, 34));
            check.no("its end", gate.couldEnter(ASKER, MACHINE, 35));
            gate.enter(ASKER, MACHINE);
            check.yes("a time to come", gate.couldEnter(ASKER, MACHINE, 134));
            gate.pass(1);
            gate.takeAway(ASKER, MACHINE);
            check.no("that does not come", gate.couldEnter(ASKER, MACHINE, 134));
            check.yes("but what held until then", gate.couldEnter(ASKER, MACHINE, 105));
        });
        sentences.test(promise, "- `time`: 0 to 100000", () -> {
            AccessGate gate = Gates.granted(5);
            check.yes("time 0", gate.couldEnter(ASKER, MACHINE, 0));
            check.no("time 100000, far ahead", gate.couldEnter(ASKER, MACHINE, 100000));
            Gates.passTo(gate, 99999);
            Gates.grant(gate, ASKER, MACHINE, 600);
            check.no("time 99998", gate.couldEnter(ASKER, MACHINE, 99998));
            check.yes("time 100000, of a right that ends behind it", gate.couldEnter(ASKER, MACHINE, 100000));
        });
        sentences.test(promise, "Throws `IndexOutOfBoundsException` if there is no such person or machine", () -> {
            onNew.noSuch("person", 0, (gate, person) -> gate.couldEnter(person, 0, 0));
            onBusy.noSuch("person", 5, (gate, person) -> gate.couldEnter(person, MACHINE, 0));
            onBusy.noSuch("machine", 3, (gate, machine) -> gate.couldEnter(ASKER, machine, 0));
            onBusy.noSuch("machine, at time -1,", 3, (gate, machine) -> gate.couldEnter(ASKER, machine, -1));
        });
        sentences.test(promise, "Throws `IllegalArgumentException` if time is out of range", () -> {
            onStaffed.outOfRange("time", 0, 100000, (gate, time) -> gate.couldEnter(ASKER, MACHINE, time));
            onBusy.outOfRange("time", 0, 100000, (gate, time) -> gate.couldEnter(ASKER, MACHINE, time));
        });
    }
}
