import java.math.BigInteger;
import java.util.ArrayList;
import java.util.BitSet;
import java.util.HashSet;
import java.util.List;
import java.util.Set;

/**
 * The document told a second time, in another way than the class: minutes pass one by one, rights are sets of
 * minutes, lapses are kept as they come, and seals are reckoned from the first step on.
 */
final class GateModel {
    static final String INDEX = "throws.IndexOutOfBoundsException";
    static final String ARGUMENT = "throws.IllegalArgumentException";
    static final String STATE = "throws.IllegalStateException";

    private static final class ModelAsk {
        int person, machine, minutes, waited;
        String state = "0";
        final Set<Integer> approvals = new HashSet<>();
    }

    private static final class ModelSession {
        int person, machine, rest, letThrough, held;
        boolean open = true, holds;
    }

    private final List<Integer> teams = new ArrayList<>();
    private final List<Set<Integer>> labels = new ArrayList<>();
    private final List<Integer> machines = new ArrayList<>();
    private final BitSet[][] rights = new BitSet[12][8];
    private final List<ModelAsk> asks = new ArrayList<>();
    private final List<int[]> entries = new ArrayList<>();
    private final Set<Integer> looked = new HashSet<>();
    private final List<ModelSession> sessions = new ArrayList<>();
    private final List<int[]> record = new ArrayList<>();
    private int clock = 0;

    GateModel() {
        for (BitSet[] row : rights) {
            for (int i = 0; i < row.length; i++) {
                row[i] = new BitSet();
            }
        }
    }

    String addPerson(int team) {
        if (outside(team, 0, 3)) return ARGUMENT;
        if (teams.size() == 12) return STATE;
        teams.add(team);
        labels.add(new HashSet<>());
        return "" + (teams.size() - 1);
    }

    String addMachine(int label) {
        if (outside(label, 0, 3)) return ARGUMENT;
        if (machines.size() == 8) return STATE;
        machines.add(label);
        return "" + (machines.size() - 1);
    }

    String setLabel(int person, int label, boolean has) {
        if (noPerson(person)) return INDEX;
        if (outside(label, 0, 3)) return ARGUMENT;
        if (has) {
            labels.get(person).add(label);
            return "0";
        }
        boolean had = labels.get(person).remove(label);
        for (int machine = 0; had && machine < machines.size(); machine++) {
            if (machines.get(machine) == label) {
                rights[person][machine].clear(clock, Integer.MAX_VALUE);
                refuse(person, machine);
            }
        }
        return "" + sweep();
    }

    String takeAway(int person, int machine) {
        if (noPerson(person) || noMachine(machine)) return INDEX;
        rights[person][machine].clear(clock, Integer.MAX_VALUE);
        refuse(person, machine);
        return "" + sweep();
    }

    String ask(int person, int machine, int minutes) {
        if (noPerson(person) || noMachine(machine)) return INDEX;
        if (outside(minutes, 1, 600)) return ARGUMENT;
        if (!labelled(person, machine) || overdueOf(person) > 0) return STATE;
        ModelAsk ask = new ModelAsk();
        ask.person = person;
        ask.machine = machine;
        ask.minutes = minutes;
        asks.add(ask);
        step(0, person, machine);
        return "" + (asks.size() - 1);
    }

    String approve(int number, int by) {
        if (outside(number, 0, asks.size() - 1) || noPerson(by)) return INDEX;
        ModelAsk ask = asks.get(number);
        if (!ask.state.equals("0") || !judges(by, ask.person, ask.machine)) return STATE;
        if (!ask.approvals.add(by)) return STATE;
        step(1, by, ask.machine);
        if (ask.approvals.size() < 2) return "false";
        ask.state = "1";
        rights[ask.person][ask.machine].set(clock, clock + ask.minutes);
        return "true";
    }

    String deny(int number, int by) {
        if (outside(number, 0, asks.size() - 1) || noPerson(by)) return INDEX;
        ModelAsk ask = asks.get(number);
        if (!ask.state.equals("0") || !judges(by, ask.person, ask.machine)) return STATE;
        ask.state = "2";
        step(2, by, ask.machine);
        return "void";
    }

    String askState(int number) {
        return outside(number, 0, asks.size() - 1) ? INDEX : asks.get(number).state;
    }

    String enter(int person, int machine) {
        if (noPerson(person) || noMachine(machine)) return INDEX;
        if (!labelled(person, machine) || overdueOf(person) > 0) return STATE;
        entries.add(new int[] {person, machine, clock});
        rights[person][machine].set(clock, clock + 30);
        step(3, person, machine);
        return "" + (entries.size() - 1);
    }

    String lookAt(int number, int by) {
        if (outside(number, 0, entries.size() - 1) || noPerson(by)) return INDEX;
        int[] entry = entries.get(number);
        if (looked.contains(number) || teams.get(by).equals(teams.get(entry[0]))) return STATE;
        looked.add(number);
        step(4, by, entry[1]);
        return "" + (clock - entry[2]);
    }

    String overdue(int person) {
        return noPerson(person) ? INDEX : "" + overdueOf(person);
    }

    String couldEnter(int person, int machine, int time) {
        if (noPerson(person) || noMachine(machine)) return INDEX;
        if (outside(time, 0, 100000)) return ARGUMENT;
        return "" + rights[person][machine].get(time);
    }

    String open(int person, int machine) {
        if (noPerson(person) || noMachine(machine)) return INDEX;
        if (!rights[person][machine].get(clock)) return STATE;
        ModelSession session = new ModelSession();
        session.person = person;
        session.machine = machine;
        sessions.add(session);
        step(5, person, machine);
        return "" + (sessions.size() - 1);
    }

    String type(int number, int kind) {
        if (outside(number, 0, sessions.size() - 1)) return INDEX;
        if (outside(kind, 0, 2)) return ARGUMENT;
        ModelSession session = sessions.get(number);
        if (!session.open || session.holds) return STATE;
        step(7, session.person, session.machine);
        session.rest = 0;
        switch (kind) {
            case 0:
                session.letThrough++;
                return "true";
            case 1:
                session.holds = true;
                session.held = 0;
                return "false";
            default:
                rights[session.person][session.machine].clear(clock, Integer.MAX_VALUE);
                sweep();
                return "false";
        }
    }

    String letThrough(int number, int by) {
        if (outside(number, 0, sessions.size() - 1) || noPerson(by)) return INDEX;
        ModelSession session = sessions.get(number);
        if (!session.open || !session.holds || !judges(by, session.person, session.machine)) return STATE;
        session.holds = false;
        session.letThrough++;
        step(8, by, session.machine);
        return "" + session.held;
    }

    String close(int number) {
        if (outside(number, 0, sessions.size() - 1)) return INDEX;
        ModelSession session = sessions.get(number);
        if (!session.open) return STATE;
        session.open = false;
        step(6, session.person, session.machine);
        return "" + session.letThrough;
    }

    String isOpen(int number) {
        return outside(number, 0, sessions.size() - 1) ? INDEX : "" + sessions.get(number).open;
    }

    String openSessions() {
        return "" + sessions.stream().filter(session -> session.open).count();
    }

    String pass(int minutes) {
        if (outside(minutes, 1, 3000)) return ARGUMENT;
        if (clock + minutes > 100000) return STATE;
        int closed = 0;
        for (int i = 0; i < minutes; i++) {
            clock++;
            for (ModelAsk ask : asks) {
                ask.waited++;
                if (ask.state.equals("0") && ask.waited == 60) ask.state = "3";
            }
            for (ModelSession session : sessions) {
                session.rest++;
                session.held++;
            }
            closed += sweep();
        }
        return "" + closed;
    }

    String clock() {
        return "" + clock;
    }

    String steps() {
        return "" + record.size();
    }

    String kind(int number) {
        return outside(number, 0, record.size() - 1) ? INDEX : "" + record.get(number)[0];
    }

    String seal(int number) {
        if (outside(number, 0, record.size() - 1)) return INDEX;
        BigInteger seal = BigInteger.ONE;
        for (int i = 0; i <= number; i++) {
            int[] step = record.get(i);
            long own = step[0] + 10L * step[1] + 200L * step[2] + 2000L * step[3];
            seal = seal.multiply(BigInteger.valueOf(31)).add(BigInteger.valueOf(own));
            seal = seal.mod(BigInteger.valueOf(1000003));
        }
        return seal.toString();
    }

    boolean isLookedAt(int number) {
        return looked.contains(number);
    }

    int people() {
        return teams.size();
    }

    int machineCount() {
        return machines.size();
    }

    int askCount() {
        return asks.size();
    }

    int entryCount() {
        return entries.size();
    }

    int sessionCount() {
        return sessions.size();
    }

    int stepCount() {
        return record.size();
    }

    int minute() {
        return clock;
    }

    private int sweep() {
        int closed = 0;
        for (ModelSession session : sessions) {
            boolean may = rights[session.person][session.machine].get(clock);
            if (session.open && (!may || session.rest >= 15)) {
                session.open = false;
                step(6, session.person, session.machine);
                closed++;
            }
        }
        return closed;
    }

    private void refuse(int person, int machine) {
        for (ModelAsk ask : asks) {
            if (ask.person == person && ask.machine == machine && ask.state.equals("0")) {
                ask.state = "2";
            }
        }
    }

    private void step(int kind, int person, int machine) {
        record.add(new int[] {kind, person, machine, clock});
    }

    private int overdueOf(int person) {
        int count = 0;
        for (int i = 0; i < entries.size(); i++) {
            int[] entry = entries.get(i);
            if (entry[0] == person && !looked.contains(i) && clock >= entry[2] + 1440) count++;
        }
        return count;
    }

    private boolean labelled(int person, int machine) {
        return labels.get(person).contains(machines.get(machine));
    }

    private boolean judges(int by, int person, int machine) {
        return !teams.get(by).equals(teams.get(person)) && labelled(by, machine);
    }

    private boolean noPerson(int person) {
        return outside(person, 0, teams.size() - 1);
    }

    private boolean noMachine(int machine) {
        return outside(machine, 0, machines.size() - 1);
    }

    private static boolean outside(int value, int least, int most) {
        return value < least || value > most;
    }
}
