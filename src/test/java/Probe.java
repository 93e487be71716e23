import java.util.ArrayList;
import java.util.List;
import java.util.function.Supplier;

/**
 * Asks a gate for all that it tells, and then makes the calls whose answers tell the rest of its state: labels,
 * approvals, held lines, lines let through, and when what waits or rests ends. The gate is used up by that.
 */
final class Probe {
    private static final int PEOPLE = 5;
    private static final int MACHINES = 3;
    private static final int ASKS = 5;
    private static final int ENTRIES = 3;
    private static final int SESSIONS = 4;

    private final AccessGate gate;
    private final List<String> answers = new ArrayList<>();

    private Probe(AccessGate gate) {
        this.gate = gate;
    }

    /** What the gate answers when it is used at once. */
    static List<String> atOnce(AccessGate gate) {
        Probe probe = new Probe(gate);
        probe.read();
        probe.judge();
        probe.use();
        return probe.answers;
    }

    /** What the gate answers when minutes pass, until all that waits or rests has ended. */
    static List<String> byAndBy(AccessGate gate) {
        Probe probe = new Probe(gate);
        probe.answers.add("clock " + gate.clock());
        for (int i = 0; i < 75; i++) {
            int minute = i;
            probe.answer("minute " + minute, () -> gate.pass(1));
            probe.answer("open sessions in minute " + minute, gate::openSessions);
        }
        probe.read();
        probe.answer("a day", () -> gate.pass(1440));
        probe.read();
        return probe.answers;
    }

    private void answer(String call, Supplier<Object> asked) {
        String got;
        try {
            got = "" + asked.get();
        } catch (RuntimeException e) {
            got = Check.thrown(e);
        }
        answers.add(call + " answers " + got);
    }

    private void read() {
        answer("clock", gate::clock);
        answer("steps", gate::steps);
        answer("seal", () -> gate.seal(gate.steps() - 1));
        answer("openSessions", gate::openSessions);
        for (int i = 0; i < ASKS; i++) {
            int ask = i;
            answer("askState of " + ask, () -> gate.askState(ask));
        }
        for (int i = 0; i < SESSIONS; i++) {
            int session = i;
            answer("isOpen of " + session, () -> gate.isOpen(session));
        }
        for (int i = 0; i < PEOPLE; i++) {
            int person = i;
            answer("overdue of " + person, () -> gate.overdue(person));
            readRights(person);
        }
    }

    private void readRights(int person) {
        for (int i = 0; i < MACHINES; i++) {
            int machine = i;
            for (int ahead : new int[] {-1, 0, 26, 599}) {
                int time = Math.max(0, gate.clock() + ahead);
                answer("couldEnter of " + person + " for " + machine + " at " + time,
                        () -> gate.couldEnter(person, machine, time));
            }
        }
    }

    private void judge() {
        for (int i = 0; i < SESSIONS; i++) {
            int session = i;
            answer("letThrough of " + session, () -> gate.letThrough(session, Gates.OTHER));
            answer("type in " + session, () -> gate.type(session, AccessGate.PLAIN));
            answer("close of " + session, () -> gate.close(session));
        }
        for (int i = 0; i < ASKS; i++) {
            int ask = i;
            answer("approve of " + ask, () -> gate.approve(ask, Gates.OTHER));
            answer("second approve of " + ask, () -> gate.approve(ask, Gates.THIRD));
        }
        for (int i = 0; i < ENTRIES; i++) {
            int entry = i;
            answer("lookAt of " + entry, () -> gate.lookAt(entry, Gates.BARE));
        }
    }

    private void use() {
        for (int i = 0; i < PEOPLE; i++) {
            int person = i;
            for (int j = 0; j < MACHINES; j++) {
                int machine = j;
                answer("open by " + person + " of " + machine, () -> gate.open(person, machine));
                answer("ask by " + person + " for " + machine, () -> gate.ask(person, machine, 1));
                answer("enter by " + person + " of " + machine, () -> gate.enter(person, machine));
                answer("takeAway of " + person + " for " + machine, () -> gate.takeAway(person, machine));
            }
        }
        answer("addPerson", () -> gate.addPerson(0));
        answer("addMachine", () -> gate.addMachine(0));
        answer("steps at the end", gate::steps);
        answer("seal at the end", () -> gate.seal(gate.steps() - 1));
    }
}
