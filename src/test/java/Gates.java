/** Gates that several tests begin with. */
final class Gates {
    static final int ASKER = 0;
    static final int MATE = 1;
    static final int OTHER = 2;
    static final int THIRD = 3;
    static final int BARE = 4;

    /** A machine of label 0. */
    static final int MACHINE = 0;
    /** A second machine of label 0. */
    static final int TWIN = 1;
    /** A machine of label 1, which nobody has. */
    static final int STRANGE = 2;

    private Gates() {
    }

    /** ASKER and MATE are of team 0, OTHER, THIRD and BARE of the teams 1, 2 and 3; all but BARE have label 0. */
    static AccessGate staffed() {
        AccessGate gate = new AccessGate();
        int[] teams = {0, 0, 1, 2, 3};
        for (int team : teams) {
            gate.addPerson(team);
        }
        gate.addMachine(0);
        gate.addMachine(0);
        gate.addMachine(1);
        gate.setLabel(ASKER, 0, true);
        gate.setLabel(MATE, 0, true);
        gate.setLabel(OTHER, 0, true);
        gate.setLabel(THIRD, 0, true);
        return gate;
    }

    /** As staffed(), with a right of ASKER for MACHINE from now on, for some minutes. */
    static AccessGate granted(int minutes) {
        AccessGate gate = staffed();
        grant(gate, ASKER, MACHINE, minutes);
        return gate;
    }

    /** As granted(600), with session 0 opened. */
    static AccessGate inSession() {
        AccessGate gate = granted(600);
        gate.open(ASKER, MACHINE);
        return gate;
    }

    /**
     * At the minute 1443: of the asks, 0 has lapsed, 1 is approved, 2 is denied, 3 waits with an approval of OTHER, 4
     * waits without one. Entry 0 of MATE is overdue, entry 1 of MATE is looked at, entry 2 of ASKER waits for that.
     * Session 0 holds a line, session 1 holds none, session 2 is closed, all of ASKER.
     */
    static AccessGate busy() {
        AccessGate gate = staffed();
        gate.enter(MATE, MACHINE);
        gate.enter(MATE, TWIN);
        gate.lookAt(1, BARE);
        gate.ask(ASKER, MACHINE, 600);
        gate.pass(1440);
        grant(gate, ASKER, MACHINE, 600);
        gate.ask(ASKER, TWIN, 60);
        gate.deny(2, OTHER);
        gate.ask(ASKER, TWIN, 60);
        gate.approve(3, OTHER);
        gate.ask(ASKER, MACHINE, 60);
        gate.enter(ASKER, TWIN);
        gate.open(ASKER, MACHINE);
        gate.type(0, AccessGate.PLAIN);
        gate.open(ASKER, TWIN);
        gate.type(1, AccessGate.PLAIN);
        gate.open(ASKER, MACHINE);
        gate.close(2);
        gate.pass(1);
        gate.type(0, AccessGate.RISKY);
        gate.pass(2);
        return gate;
    }

    /** At the last minute, 100000, with people and machines as staffed(). */
    static AccessGate atTheLastMinute() {
        AccessGate gate = staffed();
        passTo(gate, 100000);
        return gate;
    }

    /** With one person of team 0 who has label 0, and one machine of label 0: made by three calls. */
    static AccessGate single() {
        AccessGate gate = new AccessGate();
        gate.addPerson(0);
        gate.addMachine(0);
        gate.setLabel(0, 0, true);
        return gate;
    }

    /** Lets minutes pass until the clock tells a time, which is not yet. */
    static void passTo(AccessGate gate, int time) {
        while (gate.clock() < time) {
            gate.pass(Math.min(3000, time - gate.clock()));
        }
    }

    /** Gives a person of team 0 a right. */
    static void grant(AccessGate gate, int person, int machine, int minutes) {
        int ask = gate.ask(person, machine, minutes);
        gate.approve(ask, OTHER);
        gate.approve(ask, THIRD);
    }
}
