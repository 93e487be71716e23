/** Gates that several tests begin with. */
final class Gates {
    static final int ASKER = 0;
    static final int MATE = 1;
    static final int OTHER = 2;
    static final int THIRD = 3;
    static final int BARE = 4;

    /** A machine of label 0. */
    static final int MACHINE = 0;
    /** A second machine of label 0. */
    static final int TWIN = 1;
    /** A machine of label 1, which nobody has. */
    static final int STRANGE = 2;

    private Gates() {
    }

    /** ASKER and MATE are of team 0, OTHER, THIRD and BARE of the teams 1, 2 and 3; all but BARE have label 0. */
    static AccessGate staffed() {
        AccessGate gate = new AccessGate();
        int[] teams = {0, 0, 1, 2, 3};
        for (int team : teams) {
            gate.addPerson(team);
        }
        gate.addMachine(0);
        gate.addMachine(0);
        gate.addMachine(1);
        gate.setLabel(ASKER, 0, true);
        gate.setLabel(MATE, 0, true);
        gate.setLabel(OTHER, 0, true);
        gate.setLabel(THIRD, 0, true);
        return gate;
    }

    /** As staffed(), with a right of ASKER for MACHINE from now on, for some minutes. */
    static AccessGate granted(int minutes) {
        AccessGate gate = staffed();
        grant(gate, ASKER, MACHINE, minutes);
        return gate;
    }

    /** As granted(600), with session 0 opened. */
    static AccessGate inSession() {
        AccessGate gate = granted(600);
        gate.open(ASKER, MACHINE);
        return gate;
    }

    /** Gives a person of team 0 a right. */
    static void grant(AccessGate gate, int person, int machine, int minutes) {
        int ask = gate.ask(person, machine, minutes);
        gate.approve(ask, OTHER);
        gate.approve(ask, THIRD);
    }
}
