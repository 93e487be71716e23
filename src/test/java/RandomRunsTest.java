import java.util.Map;
import java.util.Random;
import java.util.TreeMap;
import java.util.function.IntPredicate;
import java.util.function.Supplier;

/** Runs of 512 calls each, drawn from fixed seeds: each answer, and then the whole state, as the model has it. */
public final class RandomRunsTest {
    private static final int RUNS = 600;
    private static final int CALLS = 512;
    private static final Check check = new Check("RandomRunsTest");

    private final Random random;
    private final AccessGate gate = new AccessGate();
    private final GateModel model = new GateModel();
    private final Map<String, Integer> answered;

    private RandomRunsTest(long seed, Map<String, Integer> answered) {
        this.random = new Random(seed);
        this.answered = answered;
    }

    public static void main(String[] args) {
        Map<String, Integer> answered = new TreeMap<>();
        for (int seed = 0; seed < RUNS; seed++) {
            new RandomRunsTest(seed, answered).run(seed);
        }
        // A drawing that hardly reaches a call's answers would test little.
        for (String name : new String[] {"ask", "approve", "deny", "enter", "lookAt", "open", "type", "letThrough", "close"}) {
            for (String kind : new String[] {" answers", " throws.IndexOutOfBoundsException", " throws.IllegalStateException"}) {
                int count = answered.getOrDefault(name + kind, 0);
                check.yes(name + kind + " often, not just " + count + " times", count >= RUNS);
            }
        }
        check.end();
    }

    private void run(int seed) {
        staff();
        int style = seed % 3;
        for (int i = 0; i < CALLS; i++) {
            drawCall(seed + "." + i + " ", style);
        }
        compareState("end of run " + seed + " ");
    }

    /** Most runs begin with people who have labels, so that what follows often holds. */
    private void staff() {
        int people = random.nextInt(13);
        for (int i = 0; i < people; i++) {
            int team = random.nextInt(4);
            compare("addPerson", "staff ", () -> "" + gate.addPerson(team), model.addPerson(team));
            for (int label = 0; label < 4; label++) {
                int given = label;
                if (random.nextInt(4) > 0) {
                    int person = i;
                    compare("setLabel", "staff ", () -> "" + gate.setLabel(person, given, true), model.setLabel(person, given, true));
                }
            }
        }
        int machines = random.nextInt(6);
        for (int i = 0; i < machines; i++) {
            int label = random.nextInt(4);
            compare("addMachine", "staff ", () -> "" + gate.addMachine(label), model.addMachine(label));
        }
    }

    private void drawCall(String at, int style) {
        int draw = random.nextInt(100);
        if (draw < 40) {
            drawRight(at);
        } else if (draw < 75) {
            drawSession(at);
        } else if (draw < 85) {
            drawPass(at, style);
        } else if (draw < 92) {
            drawPeople(at);
        } else {
            drawLook(at);
        }
    }

    private void drawRight(String at) {
        int person = number(model.people());
        int machine = number(model.machineCount());
        int minutes = edge(1, 600, random.nextInt(2) == 0 ? 40 : 600);
        int ask = likely(model.askCount(), number -> model.askState(number).equals("0"));
        int entry = likely(model.entryCount(), number -> !model.isLookedAt(number));
        switch (random.nextInt(10)) {
            case 0: case 1:
                compare("ask", at, () -> "" + gate.ask(person, machine, minutes), model.ask(person, machine, minutes));
                break;
            case 2: case 3: case 4: case 5: case 6:
                compare("approve", at, () -> "" + gate.approve(ask, person), model.approve(ask, person));
                break;
            case 7:
                compare("deny", at, () -> { gate.deny(ask, person); return "void"; }, model.deny(ask, person));
                break;
            case 8:
                compare("enter", at, () -> "" + gate.enter(person, machine), model.enter(person, machine));
                break;
            default:
                compare("lookAt", at, () -> "" + gate.lookAt(entry, person), model.lookAt(entry, person));
        }
    }

    private void drawSession(String at) {
        int machine = number(model.machineCount());
        int person = number(model.people());
        int holder = likely(model.people(), number -> model.couldEnter(number, machine, model.minute()).equals("true"));
        int session = likely(model.sessionCount(), number -> model.isOpen(number).equals("true"));
        switch (random.nextInt(10)) {
            case 0: case 1: case 2:
                compare("open", at, () -> "" + gate.open(holder, machine), model.open(holder, machine));
                break;
            case 3: case 4: case 5:
                int draw = random.nextInt(20);
                int kind = draw < 9 ? 0 : draw < 17 ? 1 : draw < 18 ? 2 : draw < 19 ? 3 : -1;
                compare("type", at, () -> "" + gate.type(session, kind), model.type(session, kind));
                break;
            case 6: case 7: case 8:
                compare("letThrough", at, () -> "" + gate.letThrough(session, person), model.letThrough(session, person));
                break;
            default:
                if (random.nextBoolean()) {
                    compare("close", at, () -> "" + gate.close(session), model.close(session));
                } else {
                    compare("isOpen", at, () -> "" + gate.isOpen(session), model.isOpen(session));
                }
        }
    }

    private void drawPass(String at, int style) {
        int most = style == 0 ? 4 : style == 1 ? 12 : random.nextInt(5) == 0 ? 3000 : 30;
        int minutes = random.nextInt(9) == 0 ? edge(1, 3000, 100) : 1 + random.nextInt(most);
        compare("pass", at, () -> "" + gate.pass(minutes), model.pass(minutes));
    }

    private void drawPeople(String at) {
        int person = number(model.people());
        int machine = number(model.machineCount());
        int small = random.nextInt(6) - 1;
        switch (random.nextInt(8)) {
            case 0:
                compare("addPerson", at, () -> "" + gate.addPerson(small), model.addPerson(small));
                break;
            case 1:
                compare("addMachine", at, () -> "" + gate.addMachine(small), model.addMachine(small));
                break;
            case 2: case 3:
                compare("takeAway", at, () -> "" + gate.takeAway(person, machine), model.takeAway(person, machine));
                break;
            default:
                boolean has = random.nextInt(3) > 0;
                compare("setLabel", at, () -> "" + gate.setLabel(person, small, has), model.setLabel(person, small, has));
        }
    }

    private void drawLook(String at) {
        int person = number(model.people());
        int machine = number(model.machineCount());
        int time = random.nextInt(10) == 0 ? edge(0, 100000, 100000) : model.minute() + random.nextInt(80) - 50;
        int ask = number(model.askCount());
        int step = number(model.stepCount());
        switch (random.nextInt(8)) {
            case 0:
                compare("overdue", at, () -> "" + gate.overdue(person), model.overdue(person));
                break;
            case 1:
                compare("askState", at, () -> "" + gate.askState(ask), model.askState(ask));
                break;
            case 2:
                compare("openSessions", at, () -> "" + gate.openSessions(), model.openSessions());
                break;
            case 3:
                compare("clock", at, () -> "" + gate.clock(), model.clock());
                break;
            case 4:
                compare("kind", at, () -> "" + gate.kind(step), model.kind(step));
                break;
            case 5:
                compare("seal", at, () -> "" + gate.seal(step), model.seal(step));
                break;
            default:
                compare("couldEnter", at, () -> "" + gate.couldEnter(person, machine, time), model.couldEnter(person, machine, time));
        }
        compare("steps", at, () -> "" + gate.steps(), model.steps());
    }

    private void compareState(String at) {
        compare("clock", at, () -> "" + gate.clock(), model.clock());
        compare("steps", at, () -> "" + gate.steps(), model.steps());
        compare("openSessions", at, () -> "" + gate.openSessions(), model.openSessions());
        for (int i = -1; i <= model.stepCount(); i++) {
            int step = i;
            compare("kind", at, () -> "" + gate.kind(step), model.kind(step));
            compare("seal", at, () -> "" + gate.seal(step), model.seal(step));
        }
        for (int i = -1; i <= model.askCount(); i++) {
            int ask = i;
            compare("askState", at, () -> "" + gate.askState(ask), model.askState(ask));
        }
        for (int i = -1; i <= model.sessionCount(); i++) {
            int session = i;
            compare("isOpen", at, () -> "" + gate.isOpen(session), model.isOpen(session));
        }
        for (int person = 0; person < model.people(); person++) {
            for (int machine = 0; machine < model.machineCount(); machine++) {
                compareRights(at, person, machine);
            }
        }
    }

    private void compareRights(String at, int person, int machine) {
        int from = Math.max(0, model.minute() - 700);
        for (int i = from; i < Math.min(model.minute() + 700, 100001); i += 1 + random.nextInt(25)) {
            int time = i;
            compare("couldEnter", at, () -> "" + gate.couldEnter(person, machine, time), model.couldEnter(person, machine, time));
        }
    }

    private void compare(String name, String at, Supplier<String> call, String want) {
        String got;
        try {
            got = call.get();
        } catch (RuntimeException e) {
            got = Check.thrown(e);
        }
        check.same(at + name, got, want);
        answered.merge(name + " " + (want.startsWith("throws.") ? want : "answers"), 1, Integer::sum);
    }

    /** A number below count as a rule, now and then one that is none. */
    private int number(int count) {
        return random.nextInt(25) == 0 ? edge(0, count - 1, count + 1) : random.nextInt(count + 1) % Math.max(1, count);
    }

    /** As number(), but mostly one that is of use, if one is found soon. */
    private int likely(int count, IntPredicate isOfUse) {
        int any = number(count);
        if (any < 0 || any >= count || random.nextInt(8) == 0) {
            return any;
        }
        for (int i = 0; i < 30 && !isOfUse.test(any); i++) {
            any = random.nextInt(count);
        }
        return any;
    }

    /** A value at or just beyond the bounds half of the time, and else one up to most. */
    private int edge(int least, int greatest, int most) {
        switch (random.nextInt(12)) {
            case 0: return least - 1;
            case 1: return least;
            case 2: return greatest;
            case 3: return greatest + 1;
            case 4: return Integer.MIN_VALUE;
            case 5: return Integer.MAX_VALUE;
            default: return least + random.nextInt(Math.max(1, most - least + 1));
        }
    }
}
