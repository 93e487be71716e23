/** Each sentence of 'What it is', of 'Terms' and of 'Not promised' has a test of its own here, or only tells. */
public final class TermsTest {
    private static final Check check = new Check("TermsTest");
    private static final String TERMS = "Terms";
    private static final String NOT_PROMISED = "Not promised";

    private static final int ASKER = Gates.ASKER;
    private static final int MATE = Gates.MATE;
    private static final int OTHER = Gates.OTHER;
    private static final int THIRD = Gates.THIRD;
    private static final int BARE = Gates.BARE;
    private static final int MACHINE = Gates.MACHINE;
    private static final int TWIN = Gates.TWIN;
    private static final int STRANGE = Gates.STRANGE;

    public static void main(String[] args) {
        Sentences sentences = new Sentences(check, "What it is", TERMS, NOT_PROMISED);
        ahead(sentences);
        peopleAndMachines(sentences);
        rights(sentences);
        sessions(sentences);
        record(sentences);
        notPromised(sentences);
        sentences.end();
    }

    private static void ahead(Sentences sentences) {
        sentences.onlyTells("What it is", "A gate to machines: people of teams who may ask for machines by label, asks "
                + "that two others approve, emergency entries that are looked at later, sessions that end by time, by "
                + "rest, or when a right is taken away, typed lines that are judged, and a record in which each step is "
                + "sealed with the one before.");
        sentences.test("What it is", "An object is used for at most 512 calls after it has been made; what later calls "
                + "answer is free.", TermsTest::theLastOf512Calls);
        sentences.onlyTells(TERMS, "People and machines are added, asks are made and approved, sessions are opened and "
                + "lines are typed while minutes pass; rights, sessions, past rights and the record can be asked for.");
        sentences.test(TERMS, "Time is counted in minutes from 0.", TermsTest::timeFrom0);
        sentences.test(TERMS, "Labels are 0 to 3.", TermsTest::labels);
        sentences.test(TERMS, "A method throws IndexOutOfBoundsException if there is no such person, machine, ask, entry, "
                + "session or step, IllegalArgumentException if another argument is out of range, and "
                + "IllegalStateException as it documents; if several apply, the one that it lists first is thrown.",
                TermsTest::theFirstOfSeveral);
        sentences.test(TERMS, "A call that throws changes nothing.", TermsTest::throwsChangeNothing);
    }

    private static void peopleAndMachines(Sentences sentences) {
        sentences.test(TERMS, "People are numbered from 0; there are at most 12.", TermsTest::atMost12People);
        sentences.test(TERMS, "A person is of a team, 0 to 3, and may have labels; at first none.",
                TermsTest::teamsAndNoLabels);
        sentences.test(TERMS, "Machines are numbered from 0; there are at most 8.", TermsTest::atMost8Machines);
        sentences.test(TERMS, "A machine has a label.", TermsTest::machineHasOneLabel);
    }

    private static void rights(Sentences sentences) {
        sentences.test(TERMS, "A right of a person for a machine has a beginning and an end; it holds at a time from its "
                + "beginning on, and ahead of its end.", TermsTest::beginningAndEnd);
        sentences.test(TERMS, "An ask is made by a person who has the label of the machine, for some minutes; it waits.",
                TermsTest::askByLabel);
        sentences.test(TERMS, "Others approve it or deny it: people of another team than the person who asked, who have "
                + "the label of the machine; each of them approves an ask once, and an approval that was given stays.",
                TermsTest::othersApprove);
        sentences.test(TERMS, "With the second approval it is approved, and the person has a right that begins now and "
                + "ends as many minutes later.", TermsTest::secondApproval);
        sentences.test(TERMS, "With a denial it is denied.", TermsTest::denial);
        sentences.test(TERMS, "An ask that has waited for 60 minutes lapses.", TermsTest::lapse);
        sentences.test(TERMS, "An emergency entry gives a person who has the label of the machine a right of 30 minutes at "
                + "once.", TermsTest::entryRight);
        sentences.test(TERMS, "Entries are numbered from 0; an entry has to be looked at by a person of another team; an "
                + "entry that nobody has looked at is overdue, when 1440 minutes have passed since.",
                TermsTest::overdueAfter1440);
        sentences.test(TERMS, "A person with an overdue entry can neither ask nor enter so.", TermsTest::overdueBars);
        sentences.test(TERMS, "When a person loses the label of a machine, or rights are taken away, all rights of the "
                + "person for such machines that hold end now, and asks of the person for such machines that wait are "
                + "denied, without a step in the record.", TermsTest::rightsGo);
    }

    private static void sessions(Sentences sentences) {
        sentences.test(TERMS, "A session of a person on a machine is open, until it is closed, no right of the person for "
                + "the machine holds any more, or no line has been typed in it for 15 minutes (since it was opened, at "
                + "first).", TermsTest::sessionEnds);
        sentences.test(TERMS, "This is asked for behind each call that takes a right away, and behind each minute that "
                + "passes.", TermsTest::askedForBehindEach);
        sentences.test(TERMS, "Lines are plain, risky or forbidden.", TermsTest::threeKinds);
        sentences.test(TERMS, "A plain line is let through, unless the session holds a line; then nothing can be typed.",
                TermsTest::nothingBehindAHeldLine);
        sentences.test(TERMS, "A risky line is held, until a person of another team than that of the session, who has the "
                + "label of the machine, lets it through.", TermsTest::heldUntilLetThrough);
        sentences.test(TERMS, "With a forbidden line the session is closed, and all rights of the person for the machine "
                + "that hold end now; asks that wait stay.", TermsTest::forbiddenLine);
    }

    private static void record(Sentences sentences) {
        sentences.test(TERMS, "Steps are numbered from 0.", TermsTest::stepsFrom0);
        sentences.test(TERMS, "Each of these is a step, with a kind, a person, a machine and the time: an ask (0), an "
                + "approval (1) and a denial (2) by a person, with the machine of the ask; an emergency entry (3); an entry "
                + "looked at (4), by the person who did; a session opened (5); a session closed, in whichever way (6), with "
                + "the person of the session; a line typed, of whichever kind (7); a held line let through (8), by the "
                + "person who did.", TermsTest::eachStep);
        sentences.test(TERMS, "A forbidden line is ahead of the closing that it brings.", TermsTest::lineAheadOfClosing);
        sentences.test(TERMS, "Sessions that are closed by the same call, or in the same minute, are closed by rising "
                + "numbers.", TermsTest::closedByRisingNumbers);
        sentences.test(TERMS, "The seal of a step is the remainder by 1000003 of 31 times the seal of the step before (1 "
                + "ahead of the first one), plus its kind, plus 10 times the person, plus 200 times the machine, plus 2000 "
                + "times the time.", TermsTest::seals);
        sentences.test(TERMS, "The constants: `PLAIN = 0, RISKY = 1, FORBIDDEN = 2`: Kinds of lines.",
                TermsTest::kindsOfLines);
        sentences.test(TERMS, "`WAITING = 0, APPROVED = 1, DENIED = 2, LAPSED = 3`: States of asks.",
                TermsTest::statesOfAsks);
        sentences.onlyTells(TERMS, "Ahead of the calls `addPerson`, `addMachine`, `setLabel`, `takeAway` the interface "
                + "says: ---- people and machines.");
        sentences.onlyTells(TERMS, "Ahead of the calls `ask`, `approve`, `deny`, `askState`, `enter`, `lookAt`, "
                + "`overdue`, `couldEnter` the interface says: ---- asks and entries.");
        sentences.onlyTells(TERMS, "Ahead of the calls `open`, `type`, `letThrough`, `close`, `isOpen`, `openSessions`, "
                + "`pass`, `clock` the interface says: ---- sessions.");
        sentences.onlyTells(TERMS, "Ahead of the calls `steps`, `kind`, `seal` the interface says: ---- record.");
    }

    private static void notPromised(Sentences sentences) {
        sentences.onlyTells(NOT_PROMISED, "How the state is held inside the object is free, as are the speed of each call, "
                + "the text of toString and the behaviour of equals and hashCode.");
        sentences.onlyTells(NOT_PROMISED, "Use of one object from several threads at once is not promised to be safe.");
        sentences.onlyTells(NOT_PROMISED, "Nothing is promised beyond the answers and state changes described above, and "
                + "nothing about an object after its 512th call.");
    }

    // ---- ahead

    private static void theLastOf512Calls() {
        AccessGate asks = Gates.single();
        for (int i = 0; i < 508; i++) {
            check.same("an ask", asks.ask(0, 0, 1), i);
        }
        check.same("call 512, the state of the last ask", asks.askState(507), AccessGate.WAITING);
        AccessGate entries = Gates.single();
        for (int i = 0; i < 507; i++) {
            check.same("an entry", entries.enter(0, 0), i);
        }
        entries.pass(1440);
        check.same("call 512, the overdue entries", entries.overdue(0), 507);
        AccessGate last = Gates.single();
        for (int i = 0; i < 508; i++) {
            last.openSessions();
        }
        check.same("call 512, a person", last.addPerson(3), 1);
        check.same("call 512, the steps of the longest record", fullOfSessions().steps(), 1013);
        check.same("call 512, the last step's kind", fullOfSessions().kind(1012), 6);
        check.same("call 512, the last step's seal", fullOfSessions().seal(1012), sealOfSessions());
    }

    /** By 511 calls: an entry, 506 sessions that are opened, and all closed in one minute. */
    private static AccessGate fullOfSessions() {
        AccessGate gate = Gates.single();
        gate.enter(0, 0);
        for (int i = 0; i < 506; i++) {
            check.same("a session", gate.open(0, 0), i);
        }
        check.same("all close", gate.pass(15), 506);
        return gate;
    }

    private static long sealOfSessions() {
        long seal = 31 + 3;
        for (int i = 0; i < 506; i++) {
            seal = (31 * seal + 5) % 1000003;
        }
        for (int i = 0; i < 506; i++) {
            seal = (31 * seal + 6 + 2000 * 15) % 1000003;
        }
        return seal;
    }

    private static void timeFrom0() {
        AccessGate gate = Gates.staffed();
        check.same("a new object", gate.clock(), 0);
        gate.enter(ASKER, MACHINE);
        check.yes("a right from the minute 0", gate.couldEnter(ASKER, MACHINE, 0));
        gate.pass(1);
        check.same("a minute later", gate.clock(), 1);
    }

    private static void labels() {
        for (int label = 0; label <= 3; label++) {
            AccessGate gate = new AccessGate();
            gate.addPerson(0);
            check.same("a machine of label " + label, gate.addMachine(label), 0);
            check.same("a person of label " + label, gate.setLabel(0, label, true), 0);
            check.same("an ask by label " + label, gate.ask(0, 0, 1), 0);
        }
        Refusals refusals = new Refusals(check, Gates::busy);
        refusals.outOfRange("a machine of label", 0, 3, (gate, label) -> gate.addMachine(label));
        refusals.outOfRange("a person of label", 0, 3, (gate, label) -> gate.setLabel(BARE, label, true));
    }

    private static void theFirstOfSeveral() {
        Refusals full = new Refusals(check, TermsTest::fullGate);
        full.argument("team 4, and 12 people", gate -> gate.addPerson(4));
        full.argument("label 4, and 8 machines", gate -> gate.addMachine(4));
        Refusals busy = new Refusals(check, Gates::busy);
        busy.index("no person, label 4", gate -> gate.setLabel(5, 4, false));
        busy.index("no person, 0 minutes, no label", gate -> gate.ask(5, STRANGE, 0));
        busy.index("no machine, 0 minutes, no label", gate -> gate.ask(BARE, 3, 0));
        busy.index("no machine, an overdue entry", gate -> gate.ask(MATE, 3, 1));
        busy.argument("601 minutes, no label", gate -> gate.ask(BARE, MACHINE, 601));
        busy.argument("0 minutes, an overdue entry", gate -> gate.ask(MATE, MACHINE, 0));
        busy.index("no ask, by who could not approve", gate -> gate.approve(5, BARE));
        busy.index("an ask that does not wait, no person", gate -> gate.approve(1, 5));
        busy.index("no ask, denied by who could not", gate -> gate.deny(5, BARE));
        busy.index("an ask that does not wait, denied by no person", gate -> gate.deny(2, 5));
        busy.index("no machine, no label", gate -> gate.enter(BARE, 3));
        busy.index("no machine, an overdue entry at an entry", gate -> gate.enter(MATE, 3));
        busy.index("no entry, by any team", gate -> gate.lookAt(3, ASKER));
        busy.index("an entry that is looked at, no person", gate -> gate.lookAt(1, 5));
        busy.index("no person, time -1", gate -> gate.couldEnter(5, MACHINE, -1));
        busy.index("no machine, time 100001", gate -> gate.couldEnter(ASKER, 3, 100001));
        busy.index("no machine, no right", gate -> gate.open(MATE, 3));
        busy.index("no session, kind 3", gate -> gate.type(3, 3));
        busy.argument("kind 3, a held line", gate -> gate.type(0, 3));
        busy.argument("kind -1, a closed session", gate -> gate.type(2, -1));
        busy.index("no session, by who could not", gate -> gate.letThrough(3, BARE));
        busy.index("a closed session, no person", gate -> gate.letThrough(2, 5));
        busy.index("a session without a held line, no person", gate -> gate.letThrough(1, 5));
        Refusals last = new Refusals(check, Gates::atTheLastMinute);
        last.argument("3001 minutes, at the last one", gate -> gate.pass(3001));
        last.argument("0 minutes, at the last one", gate -> gate.pass(0));
    }

    private static AccessGate fullGate() {
        AccessGate gate = Gates.staffed();
        for (int i = 5; i < 12; i++) {
            gate.addPerson(1);
        }
        for (int i = 3; i < 8; i++) {
            gate.addMachine(2);
        }
        return gate;
    }

    /** Other tests refuse each call by itself; here one gate refuses many in a row. */
    private static void throwsChangeNothing() {
        Refusals none = new Refusals(check, AccessGate::new);
        none.index("a new object's person", gate -> gate.takeAway(0, 0));
        none.argument("a new object's time", gate -> gate.pass(0));
        new Refusals(check, TermsTest::fullGate).state("13 people", gate -> gate.addPerson(0));
        new Refusals(check, TermsTest::fullGate).state("9 machines", gate -> gate.addMachine(0));
        new Refusals(check, Gates::atTheLastMinute).state("100001 minutes", gate -> gate.pass(1));
        Refusals busy = new Refusals(check, Gates::busy);
        busy.state("the last of many", gate -> {
            refuseArguments(gate);
            refuseStates(gate);
            gate.close(2);
        });
    }

    private static void refuseArguments(AccessGate gate) {
        check.throwsArgument("team", () -> gate.addPerson(4));
        check.throwsArgument("machine's label", () -> gate.addMachine(4));
        check.throwsArgument("person's label", () -> gate.setLabel(ASKER, 4, false));
        check.throwsIndex("loss of a label by nobody", () -> gate.setLabel(5, 0, false));
        check.throwsIndex("rights of nobody", () -> gate.takeAway(5, MACHINE));
        check.throwsIndex("rights for nothing", () -> gate.takeAway(ASKER, 3));
        check.throwsArgument("minutes of an ask", () -> gate.ask(ASKER, MACHINE, 601));
        check.throwsArgument("time", () -> gate.couldEnter(ASKER, MACHINE, 100001));
        check.throwsArgument("kind of line", () -> gate.type(1, 3));
        check.throwsArgument("minutes", () -> gate.pass(3001));
        check.throwsIndex("ask's state", () -> gate.askState(5));
        check.throwsIndex("step's kind", () -> gate.kind(gate.steps()));
        check.throwsIndex("step's seal", () -> gate.seal(gate.steps()));
    }

    private static void refuseStates(AccessGate gate) {
        check.throwsState("ask without the label", () -> gate.ask(BARE, MACHINE, 5));
        check.throwsState("ask with an overdue entry", () -> gate.ask(MATE, MACHINE, 5));
        check.throwsState("approval of the own ask", () -> gate.approve(4, ASKER));
        check.throwsState("approval twice", () -> gate.approve(3, OTHER));
        check.throwsState("denial by the team", () -> gate.deny(4, MATE));
        check.throwsState("denial of a lapsed ask", () -> gate.deny(0, OTHER));
        check.throwsState("entry without the label", () -> gate.enter(BARE, MACHINE));
        check.throwsState("entry with an overdue one", () -> gate.enter(MATE, MACHINE));
        check.throwsState("look by the team", () -> gate.lookAt(2, MATE));
        check.throwsState("look at what was looked at", () -> gate.lookAt(1, OTHER));
        check.throwsState("session without a right", () -> gate.open(MATE, MACHINE));
        check.throwsState("line behind a held one", () -> gate.type(0, AccessGate.FORBIDDEN));
        check.throwsState("line in a closed session", () -> gate.type(2, AccessGate.FORBIDDEN));
        check.throwsState("held line by the team", () -> gate.letThrough(0, MATE));
        check.throwsState("no held line", () -> gate.letThrough(1, OTHER));
    }

    // ---- people and machines

    private static void atMost12People() {
        AccessGate gate = new AccessGate();
        check.throwsIndex("nobody at first", () -> gate.overdue(0));
        for (int i = 0; i < 12; i++) {
            check.same("a person", gate.addPerson(3), i);
        }
        check.throwsState("the thirteenth", () -> gate.addPerson(3));
        check.same("number 11 is there", gate.overdue(11), 0);
        check.throwsIndex("number 12 is not", () -> gate.overdue(12));
        check.throwsState("the thirteenth once more", () -> gate.addPerson(0));
    }

    private static void teamsAndNoLabels() {
        AccessGate gate = new AccessGate();
        for (int label = 0; label < 4; label++) {
            gate.addMachine(label);
        }
        for (int team = 0; team < 4; team++) {
            int person = gate.addPerson(team);
            for (int machine = 0; machine < 4; machine++) {
                int where = machine;
                check.throwsState("no label at first", () -> gate.enter(person, where));
            }
        }
        new Refusals(check, Gates::busy).outOfRange("team", 0, 3, AccessGate::addPerson);
    }

    private static void atMost8Machines() {
        AccessGate gate = new AccessGate();
        gate.addPerson(0);
        check.throwsIndex("none at first", () -> gate.takeAway(0, 0));
        for (int i = 0; i < 8; i++) {
            check.same("a machine", gate.addMachine(3), i);
        }
        check.throwsState("the ninth", () -> gate.addMachine(3));
        check.same("number 7 is there", gate.takeAway(0, 7), 0);
        check.throwsIndex("number 8 is not", () -> gate.takeAway(0, 8));
        check.throwsState("the ninth once more", () -> gate.addMachine(0));
    }

    private static void machineHasOneLabel() {
        for (int label = 0; label < 4; label++) {
            AccessGate gate = new AccessGate();
            gate.addPerson(0);
            gate.addMachine(label);
            for (int other = 0; other < 4; other++) {
                gate.setLabel(0, other, other != label);
            }
            check.throwsState("all labels but " + label, () -> gate.enter(0, 0));
            gate.setLabel(0, label, true);
            check.same("label " + label, gate.enter(0, 0), 0);
        }
    }

    // ---- rights

    private static void beginningAndEnd() {
        AccessGate gate = Gates.staffed();
        gate.pass(7);
        Gates.grant(gate, ASKER, MACHINE, 1);
        check.no("ahead of its beginning", gate.couldEnter(ASKER, MACHINE, 6));
        check.yes("from its beginning on", gate.couldEnter(ASKER, MACHINE, 7));
        check.no("at its end", gate.couldEnter(ASKER, MACHINE, 8));
        check.same("opened at its beginning", gate.open(ASKER, MACHINE), 0);
        check.same("closed at its end", gate.pass(1), 1);
        check.throwsState("not opened at its end", () -> gate.open(ASKER, MACHINE));
        check.no("not another person's", gate.couldEnter(MATE, MACHINE, 7));
        check.no("not for another machine", gate.couldEnter(ASKER, TWIN, 7));
        Gates.grant(gate, ASKER, MACHINE, 2);
        check.yes("a second one begins at the end of the first", gate.couldEnter(ASKER, MACHINE, 8));
        check.no("and has its own end", gate.couldEnter(ASKER, MACHINE, 10));
    }

    private static void askByLabel() {
        AccessGate gate = Gates.staffed();
        check.same("by who has the label", gate.ask(ASKER, MACHINE, 5), 0);
        check.same("it waits", gate.askState(0), AccessGate.WAITING);
        Refusals refusals = new Refusals(check, Gates::staffed);
        refusals.state("by who has none", other -> other.ask(BARE, MACHINE, 5));
        refusals.state("by who has another one", other -> other.ask(ASKER, STRANGE, 5));
        gate.setLabel(ASKER, 0, false);
        check.throwsState("by who has lost it", () -> gate.ask(ASKER, MACHINE, 5));
    }

    private static void othersApprove() {
        Refusals refusals = new Refusals(check, Gates::busy);
        for (int ask = 3; ask <= 4; ask++) {
            int waiting = ask;
            refusals.state("approved by who asked", gate -> gate.approve(waiting, ASKER));
            refusals.state("approved by the team", gate -> gate.approve(waiting, MATE));
            refusals.state("approved without the label", gate -> gate.approve(waiting, BARE));
            refusals.state("denied by who asked", gate -> gate.deny(waiting, ASKER));
            refusals.state("denied by the team", gate -> gate.deny(waiting, MATE));
            refusals.state("denied without the label", gate -> gate.deny(waiting, BARE));
        }
        refusals.state("approved twice by the same", gate -> gate.approve(3, OTHER));
        AccessGate gate = Gates.busy();
        gate.setLabel(OTHER, 0, false);
        check.throwsState("who lost the label still has approved", () -> gate.approve(3, OTHER));
        check.yes("the approval stays, though the label went", gate.approve(3, THIRD));
        gate.setLabel(OTHER, 0, true);
        check.no("each ask by itself", gate.approve(4, OTHER));
        check.throwsState("and once", () -> gate.approve(4, OTHER));
    }

    private static void secondApproval() {
        AccessGate gate = Gates.staffed();
        gate.ask(ASKER, MACHINE, 600);
        gate.pass(20);
        check.no("the first", gate.approve(0, OTHER));
        check.same("one is not enough", gate.askState(0), AccessGate.WAITING);
        gate.pass(39);
        check.throwsState("no right with one", () -> gate.open(ASKER, MACHINE));
        check.yes("the second", gate.approve(0, THIRD));
        check.same("two are", gate.askState(0), AccessGate.APPROVED);
        check.no("no right ahead of now", gate.couldEnter(ASKER, MACHINE, 58));
        check.yes("begins now", gate.couldEnter(ASKER, MACHINE, 59));
        check.yes("the last of its minutes", gate.couldEnter(ASKER, MACHINE, 658));
        check.no("ends as many later", gate.couldEnter(ASKER, MACHINE, 659));
        check.throwsState("a third", () -> gate.approve(0, BARE));
    }

    private static void denial() {
        AccessGate gate = Gates.busy();
        gate.deny(3, THIRD);
        check.same("with one approval", gate.askState(3), AccessGate.DENIED);
        gate.deny(4, THIRD);
        check.same("with none", gate.askState(4), AccessGate.DENIED);
        check.throwsState("no approval behind it", () -> gate.approve(3, THIRD));
        check.throwsState("no denial behind it", () -> gate.deny(3, OTHER));
        gate.pass(60);
        check.same("it does not lapse", gate.askState(3), AccessGate.DENIED);
    }

    private static void lapse() {
        AccessGate gate = Gates.staffed();
        gate.pass(1);
        gate.ask(ASKER, MACHINE, 5);
        gate.pass(1);
        gate.ask(ASKER, MACHINE, 5);
        gate.pass(58);
        gate.approve(0, OTHER);
        check.same("for 59 minutes it waits", gate.askState(0), AccessGate.WAITING);
        gate.pass(1);
        check.same("for 60 it has lapsed", gate.askState(0), AccessGate.LAPSED);
        check.same("the one behind it has not", gate.askState(1), AccessGate.WAITING);
        check.throwsState("no approval any more", () -> gate.approve(0, THIRD));
        check.throwsState("no denial any more", () -> gate.deny(0, THIRD));
        check.no("no right", gate.couldEnter(ASKER, MACHINE, 61));
        gate.pass(3000);
        check.same("far behind that, too", gate.askState(0), AccessGate.LAPSED);
        check.same("and the other", gate.askState(1), AccessGate.LAPSED);
    }

    private static void entryRight() {
        AccessGate gate = Gates.staffed();
        gate.pass(5);
        gate.enter(ASKER, MACHINE);
        check.no("not ahead of it", gate.couldEnter(ASKER, MACHINE, 4));
        check.yes("at once", gate.couldEnter(ASKER, MACHINE, 5));
        check.yes("the thirtieth minute", gate.couldEnter(ASKER, MACHINE, 34));
        check.no("30 minutes later", gate.couldEnter(ASKER, MACHINE, 35));
        check.same("it opens", gate.open(ASKER, MACHINE), 0);
        Refusals refusals = new Refusals(check, Gates::staffed);
        refusals.state("without a label", other -> other.enter(BARE, MACHINE));
        refusals.state("with another label", other -> other.enter(ASKER, STRANGE));
    }

    private static void overdueAfter1440() {
        AccessGate gate = Gates.staffed();
        gate.pass(3);
        check.same("the first entry", gate.enter(ASKER, MACHINE), 0);
        check.same("the second entry", gate.enter(MATE, TWIN), 1);
        check.throwsState("looked at by who entered", () -> gate.lookAt(0, ASKER));
        check.throwsState("looked at by the team", () -> gate.lookAt(0, MATE));
        gate.pass(1439);
        check.same("after 1439 minutes", gate.overdue(ASKER), 0);
        check.same("one looked at in the last minute", gate.lookAt(1, BARE), 1439);
        gate.pass(1);
        check.same("after 1440", gate.overdue(ASKER), 1);
        check.same("not the one looked at", gate.overdue(MATE), 0);
        check.same("looked at late", gate.lookAt(0, BARE), 1440);
        check.same("then no more", gate.overdue(ASKER), 0);
    }

    private static void overdueBars() {
        Refusals refusals = new Refusals(check, Gates::busy);
        refusals.state("no ask", gate -> gate.ask(MATE, MACHINE, 5));
        refusals.state("no ask for another machine", gate -> gate.ask(MATE, TWIN, 5));
        refusals.state("no entry", gate -> gate.enter(MATE, MACHINE));
        refusals.state("no entry of another machine", gate -> gate.enter(MATE, TWIN));
        AccessGate gate = Gates.busy();
        check.same("others ask", gate.ask(OTHER, MACHINE, 5), 5);
        check.no("who has one may approve", gate.approve(5, MATE));
        gate.lookAt(0, OTHER);
        check.same("an ask once it is looked at", gate.ask(MATE, MACHINE, 5), 6);
        check.same("an entry once it is looked at", gate.enter(MATE, MACHINE), 3);
    }

    private static void rightsGo() {
        AccessGate lost = Gates.busy();
        int steps = lost.steps();
        check.same("loss of the label", lost.setLabel(ASKER, 0, false), 2);
        check.same("the closings are the only steps", lost.steps(), steps + 2);
        rightsAreGone(lost);
        check.same("on all such machines", lost.askState(3), AccessGate.DENIED);
        check.no("for all such machines", lost.couldEnter(ASKER, TWIN, 1443));
        AccessGate taken = Gates.busy();
        check.same("rights taken away", taken.takeAway(ASKER, MACHINE), 1);
        check.same("the closing is the only step", taken.steps(), steps + 1);
        rightsAreGone(taken);
        check.same("not for another machine", taken.askState(3), AccessGate.WAITING);
        check.yes("nor the right for another machine", taken.couldEnter(ASKER, TWIN, 1443));
        rightsGoInTheLastMinute();
        AccessGate nothing = Gates.staffed();
        check.same("no label, no rights, no asks", nothing.setLabel(BARE, 0, false), 0);
        check.same("nothing to take away", nothing.takeAway(BARE, MACHINE), 0);
        check.same("and no step", nothing.steps(), 0);
        nothing.ask(ASKER, MACHINE, 5);
        check.same("only an ask that waits", nothing.takeAway(ASKER, MACHINE), 0);
        check.same("is denied", nothing.askState(0), AccessGate.DENIED);
    }

    /** A right in the last minute in which it holds, and an ask in the last minute in which it waits, still count. */
    private static void rightsGoInTheLastMinute() {
        AccessGate lost = lastMinuteOfAll();
        check.same("a session in the last minute of its right, by the label", lost.setLabel(ASKER, 0, false), 1);
        check.no("the right ends in that minute, by the label", lost.couldEnter(ASKER, MACHINE, 59));
        check.same("an ask in its last minute, by the label", lost.askState(0), AccessGate.DENIED);
        AccessGate taken = lastMinuteOfAll();
        check.same("a session in the last minute of its right", taken.takeAway(ASKER, MACHINE), 1);
        check.no("the right ends in that minute", taken.couldEnter(ASKER, MACHINE, 59));
        check.same("an ask in its last minute", taken.askState(0), AccessGate.DENIED);
        AccessGate late = lastMinuteOfAll();
        check.same("a minute later the session is closed", late.pass(1), 1);
        check.same("so the label closes none", late.setLabel(ASKER, 0, false), 0);
        check.same("and the ask has lapsed", late.askState(0), AccessGate.LAPSED);
        check.yes("while the right held to its own end", late.couldEnter(ASKER, MACHINE, 59));
        AccessGate first = Gates.granted(5);
        first.open(ASKER, MACHINE);
        check.same("in the first minute of a right", first.takeAway(ASKER, MACHINE), 1);
        check.no("it has never held", first.couldEnter(ASKER, MACHINE, 0));
    }

    /** At the minute 59: ask 0 of ASKER lapses, and the right by which session 0 is open ends, in a minute. */
    private static AccessGate lastMinuteOfAll() {
        AccessGate gate = Gates.staffed();
        gate.ask(ASKER, MACHINE, 5);
        gate.pass(30);
        gate.enter(ASKER, MACHINE);
        gate.pass(29);
        gate.open(ASKER, MACHINE);
        return gate;
    }

    private static void rightsAreGone(AccessGate gate) {
        check.yes("held until now", gate.couldEnter(ASKER, MACHINE, 1442));
        check.no("end now", gate.couldEnter(ASKER, MACHINE, 1443));
        check.same("an ask that waits is denied", gate.askState(4), AccessGate.DENIED);
        check.same("one that has lapsed is not", gate.askState(0), AccessGate.LAPSED);
        check.same("one that is approved is not", gate.askState(1), AccessGate.APPROVED);
    }

    // ---- sessions

    private static void sessionEnds() {
        AccessGate closed = Gates.inSession();
        check.yes("it is open", closed.isOpen(0));
        closed.close(0);
        check.no("until it is closed", closed.isOpen(0));
        AccessGate expired = Gates.granted(14);
        expired.open(ASKER, MACHINE);
        expired.pass(13);
        check.yes("while a right holds", expired.isOpen(0));
        expired.pass(1);
        check.no("until none holds", expired.isOpen(0));
        AccessGate renewed = Gates.granted(14);
        renewed.open(ASKER, MACHINE);
        renewed.pass(13);
        renewed.enter(ASKER, MACHINE);
        renewed.pass(1);
        check.yes("another right that holds will do", renewed.isOpen(0));
        AccessGate resting = Gates.inSession();
        resting.pass(14);
        check.yes("14 minutes since it was opened", resting.isOpen(0));
        resting.type(0, AccessGate.PLAIN);
        resting.pass(14);
        check.yes("14 minutes since a line", resting.isOpen(0));
        resting.type(0, AccessGate.RISKY);
        resting.pass(14);
        check.yes("14 minutes since a held line", resting.isOpen(0));
        resting.letThrough(0, OTHER);
        resting.pass(1);
        check.no("15 minutes, for letting through is not typing", resting.isOpen(0));
        AccessGate untouched = Gates.inSession();
        untouched.pass(15);
        check.no("15 minutes since it was opened", untouched.isOpen(0));
    }

    private static void askedForBehindEach() {
        AccessGate gate = Gates.inSession();
        gate.takeAway(ASKER, MACHINE);
        check.no("a right taken away", gate.isOpen(0));
        gate = Gates.inSession();
        gate.setLabel(ASKER, 0, false);
        check.no("a label taken away", gate.isOpen(0));
        gate = Gates.inSession();
        gate.open(ASKER, MACHINE);
        gate.type(1, AccessGate.FORBIDDEN);
        check.no("rights ended by a forbidden line in another session", gate.isOpen(0));
        gate = Gates.inSession();
        check.same("each of many minutes", gate.pass(3000), 1);
        check.same("the closing is in its own minute", gate.seal(4), sealBehind(gate.seal(3), 6, ASKER, MACHINE, 15));
        gate = Gates.granted(5);
        gate.open(ASKER, MACHINE);
        check.same("each of many minutes, by time", gate.pass(3000), 1);
        check.same("in the minute of the end", gate.seal(4), sealBehind(gate.seal(3), 6, ASKER, MACHINE, 5));
    }

    private static void threeKinds() {
        AccessGate gate = Gates.inSession();
        check.yes("plain", gate.type(0, AccessGate.PLAIN));
        check.no("risky", gate.type(0, AccessGate.RISKY));
        gate.letThrough(0, OTHER);
        check.no("forbidden", gate.type(0, AccessGate.FORBIDDEN));
        new Refusals(check, Gates::busy).outOfRange("kind", 0, 2, (other, kind) -> other.type(1, kind));
    }

    private static void nothingBehindAHeldLine() {
        Refusals refusals = new Refusals(check, Gates::busy);
        refusals.state("plain", gate -> gate.type(0, AccessGate.PLAIN));
        refusals.state("risky", gate -> gate.type(0, AccessGate.RISKY));
        refusals.state("forbidden", gate -> gate.type(0, AccessGate.FORBIDDEN));
        AccessGate gate = Gates.busy();
        check.yes("in another session", gate.type(1, AccessGate.PLAIN));
        gate.letThrough(0, OTHER);
        check.yes("once it is let through", gate.type(0, AccessGate.PLAIN));
        check.same("lines let through", gate.close(0), 3);
    }

    private static void heldUntilLetThrough() {
        Refusals refusals = new Refusals(check, Gates::busy);
        refusals.state("by who typed it", gate -> gate.letThrough(0, ASKER));
        refusals.state("by the team", gate -> gate.letThrough(0, MATE));
        refusals.state("without the label", gate -> gate.letThrough(0, BARE));
        AccessGate gate = Gates.busy();
        gate.setLabel(OTHER, 0, false);
        check.throwsState("by who lost the label", () -> gate.letThrough(0, OTHER));
        check.same("by another team with the label", gate.letThrough(0, THIRD), 2);
        check.throwsState("it is held no more", () -> gate.letThrough(0, THIRD));
    }

    private static void forbiddenLine() {
        AccessGate gate = Gates.busy();
        gate.open(ASKER, TWIN);
        check.no("not let through", gate.type(1, AccessGate.FORBIDDEN));
        check.no("its session", gate.isOpen(1));
        check.no("another session by these rights", gate.isOpen(3));
        check.yes("not one on another machine", gate.isOpen(0));
        check.yes("held until now", gate.couldEnter(ASKER, TWIN, 1442));
        check.no("ends now", gate.couldEnter(ASKER, TWIN, 1443));
        check.yes("not the right for another machine", gate.couldEnter(ASKER, MACHINE, 1443));
        check.same("an ask that waits stays", gate.askState(3), AccessGate.WAITING);
        check.yes("and can be approved", gate.approve(3, THIRD));
        check.same("which gives a right again", gate.open(ASKER, TWIN), 4);
        AccessGate late = lastMinuteOfAll();
        late.type(0, AccessGate.FORBIDDEN);
        check.no("in the last minute of the right", late.isOpen(0));
        check.no("which ends in it", late.couldEnter(ASKER, MACHINE, 59));
        check.same("an ask in its last minute stays", late.askState(0), AccessGate.WAITING);
        late.pass(1);
        check.same("until it lapses", late.askState(0), AccessGate.LAPSED);
    }

    // ---- record

    private static int sealBehind(int before, int kind, int person, int machine, int time) {
        return (int) ((31L * before + kind + 10L * person + 200L * machine + 2000L * time) % 1000003);
    }

    private static void stepsFrom0() {
        AccessGate gate = Gates.staffed();
        check.same("none", gate.steps(), 0);
        check.throwsIndex("step 0 of none", () -> gate.kind(0));
        gate.ask(ASKER, MACHINE, 5);
        gate.deny(0, OTHER);
        check.same("step 0", gate.kind(0), 0);
        check.same("step 1", gate.kind(1), 2);
        check.throwsIndex("step 2", () -> gate.kind(2));
        check.throwsIndex("seal of step 2", () -> gate.seal(2));
    }

    private static void eachStep() {
        AccessGate gate = Gates.busy();
        newest(gate, 7, ASKER, MACHINE, 1441);
        gate.ask(ASKER, TWIN, 5);
        newest(gate, 0, ASKER, TWIN, 1443);
        gate.approve(5, THIRD);
        newest(gate, 1, THIRD, TWIN, 1443);
        gate.deny(3, OTHER);
        newest(gate, 2, OTHER, TWIN, 1443);
        gate.enter(THIRD, TWIN);
        newest(gate, 3, THIRD, TWIN, 1443);
        gate.lookAt(2, BARE);
        newest(gate, 4, BARE, TWIN, 1443);
        gate.open(THIRD, TWIN);
        newest(gate, 5, THIRD, TWIN, 1443);
        gate.close(3);
        newest(gate, 6, THIRD, TWIN, 1443);
        gate.type(1, AccessGate.PLAIN);
        newest(gate, 7, ASKER, TWIN, 1443);
        gate.letThrough(0, OTHER);
        newest(gate, 8, OTHER, MACHINE, 1443);
        gate.takeAway(ASKER, MACHINE);
        newest(gate, 6, ASKER, MACHINE, 1443);
        gate.type(1, AccessGate.RISKY);
        newest(gate, 7, ASKER, TWIN, 1443);
        gate.pass(20);
        newest(gate, 6, ASKER, TWIN, 1458);
    }

    private static void newest(AccessGate gate, int kind, int person, int machine, int time) {
        int step = gate.steps() - 1;
        check.same("kind of step " + step, gate.kind(step), kind);
        check.same("seal of step " + step, gate.seal(step), sealBehind(gate.seal(step - 1), kind, person, machine, time));
    }

    private static void lineAheadOfClosing() {
        AccessGate gate = Gates.inSession();
        gate.open(ASKER, MACHINE);
        int steps = gate.steps();
        gate.type(1, AccessGate.FORBIDDEN);
        check.same("a line and two closings", gate.steps(), steps + 3);
        check.same("the line", gate.kind(steps), 7);
        check.same("its closing", gate.kind(steps + 1), 6);
        check.same("the closing of the other", gate.kind(steps + 2), 6);
    }

    private static void closedByRisingNumbers() {
        AccessGate gate = twoPeopleTwoMachines();
        check.same("all in one minute", gate.pass(15), 4);
        risingClosings(gate, 8, 15, new int[] {MATE, ASKER, ASKER, MATE}, new int[] {TWIN, TWIN, MACHINE, MACHINE});
        gate = twoPeopleTwoMachines();
        check.same("both by one call", gate.setLabel(ASKER, 0, false), 2);
        risingClosings(gate, 8, 0, new int[] {ASKER, ASKER}, new int[] {TWIN, MACHINE});
        gate = twoPeopleTwoMachines();
        gate.pass(1);
        gate.type(0, AccessGate.PLAIN);
        gate.type(1, AccessGate.PLAIN);
        check.same("in two minutes", gate.pass(15), 4);
        risingClosings(gate, 10, 15, new int[] {ASKER, MATE}, new int[] {MACHINE, MACHINE});
        risingClosings(gate, 12, 16, new int[] {MATE, ASKER}, new int[] {TWIN, TWIN});
        check.same("no more steps", gate.steps(), 14);
    }

    /** Session 0 is of MATE on TWIN, 1 of ASKER on TWIN, 2 of ASKER on MACHINE, 3 of MATE on MACHINE; 8 steps. */
    private static AccessGate twoPeopleTwoMachines() {
        AccessGate gate = Gates.staffed();
        gate.enter(ASKER, MACHINE);
        gate.enter(ASKER, TWIN);
        gate.enter(MATE, MACHINE);
        gate.enter(MATE, TWIN);
        gate.open(MATE, TWIN);
        gate.open(ASKER, TWIN);
        gate.open(ASKER, MACHINE);
        gate.open(MATE, MACHINE);
        return gate;
    }

    private static void risingClosings(AccessGate gate, int step, int time, int[] people, int[] machines) {
        for (int i = 0; i < people.length; i++) {
            check.same("kind of closing " + i, gate.kind(step + i), 6);
            check.same("seal of closing " + i, gate.seal(step + i),
                    sealBehind(gate.seal(step + i - 1), 6, people[i], machines[i], time));
        }
    }

    private static void seals() {
        AccessGate first = Gates.staffed();
        first.enter(ASKER, MACHINE);
        check.same("1 ahead of the first: 31 * 1 + 3", first.seal(0), 34);
        first.open(ASKER, MACHINE);
        check.same("31 * 34 + 5", first.seal(1), 1059);
        check.same("the first stays", first.seal(0), 34);
        AccessGate nought = Gates.staffed();
        Gates.passTo(nought, 8500);
        nought.ask(OTHER, MACHINE, 5);
        check.same("31 + 10 * 2 + 2000 * 8500 is 17 * 1000003", nought.seal(0), 0);
        nought.ask(OTHER, MACHINE, 5);
        check.same("17000020 behind a seal of 0", nought.seal(1), 999972);
        AccessGate most = Gates.staffed();
        Gates.passTo(most, 7000);
        most.ask(MATE, MACHINE, 5);
        check.same("31 + 10 + 2000 * 7000 is one less than 14 * 1000003", most.seal(0), 1000002);
        Gates.passTo(most, 100000);
        most.enter(THIRD, TWIN);
        check.same("the largest sums", most.seal(1), (31L * 1000002 + 3 + 10 * 3 + 200 + 200000000L) % 1000003);
        check.same("the last person and machine", lastPersonAndMachine().seal(0), (31 + 3 + 110 + 1400 + 200000000L) % 1000003);
    }

    private static AccessGate lastPersonAndMachine() {
        AccessGate gate = fullGate();
        gate.setLabel(11, 2, true);
        Gates.passTo(gate, 100000);
        gate.enter(11, 7);
        return gate;
    }

    private static void kindsOfLines() {
        check.same("PLAIN", AccessGate.PLAIN, 0);
        check.same("RISKY", AccessGate.RISKY, 1);
        check.same("FORBIDDEN", AccessGate.FORBIDDEN, 2);
    }

    private static void statesOfAsks() {
        check.same("WAITING", AccessGate.WAITING, 0);
        check.same("APPROVED", AccessGate.APPROVED, 1);
        check.same("DENIED", AccessGate.DENIED, 2);
        check.same("LAPSED", AccessGate.LAPSED, 3);
        AccessGate gate = Gates.busy();
        check.same("one that waits", gate.askState(4), 0);
        check.same("one approved", gate.askState(1), 1);
        check.same("one denied", gate.askState(2), 2);
        check.same("one lapsed", gate.askState(0), 3);
    }
}
