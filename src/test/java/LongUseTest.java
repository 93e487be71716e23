import java.util.Random;

/** Runs as full as the 512 calls of the document allow, and far longer ones, in which the machine itself never throws. */
public final class LongUseTest {
    private static final Check check = new Check("LongUseTest");

    public static void main(String[] args) {
        fullOfAsks();
        fullOfEntries();
        fullOfSessions();
        refusesMoreThanAllCallsCanMake();
        keepsTheFirstSteps();
        for (int seed = 0; seed < 60; seed++) {
            beyondAllCalls(seed);
        }
        check.end();
    }

    private static void fullOfAsks() {
        AccessGate gate = Gates.single();
        for (int i = 0; i < 500; i++) {
            check.same("ask", gate.ask(0, 0, 1), i);
        }
        check.same("steps", gate.steps(), 500);
        check.same("state of the last ask", gate.askState(499), AccessGate.WAITING);
    }

    private static void fullOfEntries() {
        AccessGate gate = Gates.single();
        for (int i = 0; i < 500; i++) {
            check.same("entry", gate.enter(0, 0), i);
        }
        check.same("steps", gate.steps(), 500);
        gate.pass(1440);
        check.same("all are overdue", gate.overdue(0), 500);
    }

    private static void fullOfSessions() {
        AccessGate gate = Gates.single();
        gate.enter(0, 0);
        for (int i = 0; i < 500; i++) {
            check.same("session", gate.open(0, 0), i);
        }
        check.same("all close", gate.pass(15), 500);
        check.same("steps", gate.steps(), 1 + 2 * 500);
        check.same("kind of the last step", gate.kind(1000), 6);
        check.no("the last session", gate.isOpen(499));
    }

    /** The document leaves this free; the README promises it, so that no run can fill the memory. */
    private static void refusesMoreThanAllCallsCanMake() {
        AccessGate gate = Gates.single();
        for (int i = 0; i < 512; i++) {
            check.same("ask", gate.ask(0, 0, 1), i);
            check.same("entry", gate.enter(0, 0), i);
            check.same("session", gate.open(0, 0), i);
        }
        check.throwsState("ask 512", () -> gate.ask(0, 0, 1));
        check.throwsState("entry 512", () -> gate.enter(0, 0));
        check.throwsState("session 512", () -> gate.open(0, 0));
        check.same("all close", gate.takeAway(0, 0), 512);
    }

    private static void keepsTheFirstSteps() {
        AccessGate gate = Gates.single();
        gate.enter(0, 0);
        gate.open(0, 0);
        for (int i = 2; i < 1024; i++) {
            check.yes("line", gate.type(0, AccessGate.PLAIN));
        }
        int seal = gate.seal(1023);
        gate.type(0, AccessGate.PLAIN);
        check.same("lines", gate.close(0), 1023);
        check.same("steps", gate.steps(), 1024);
        check.same("kind of the last step", gate.kind(1023), 7);
        check.same("seal of the last step", gate.seal(1023), seal);
        check.throwsIndex("step 1024", () -> gate.kind(1024));
    }

    private static void beyondAllCalls(int seed) {
        Random random = new Random(seed);
        AccessGate gate = Gates.staffed();
        for (int i = 0; i < 3000; i++) {
            String got = "as documented";
            int call = random.nextInt(22);
            try {
                call(gate, call, value(random), value(random), value(random));
            } catch (RuntimeException e) {
                got = allowed(call, Check.thrown(e)) ? got : Check.thrown(e);
            }
            check.same("call " + call + " of seed " + seed, got, "as documented");
        }
    }

    private static int value(Random random) {
        int[] far = {Integer.MIN_VALUE, Integer.MAX_VALUE, -1, 512, 1024, 100001};
        return random.nextInt(20) == 0 ? far[random.nextInt(far.length)] : random.nextInt(random.nextInt(8) == 0 ? 1100 : 4);
    }

    /** Tells whether the face lists this very exception for the call, thrown by the program and not by the machine. */
    private static boolean allowed(int call, String thrown) {
        boolean index = call >= 2 && call <= 16 || call >= 20;
        boolean argument = call == 0 || call == 1 || call == 2 || call == 4 || call == 11 || call == 13 || call == 18;
        boolean state = call == 0 || call == 1 || call == 18 || call >= 4 && call <= 15 && call != 7 && call != 10 && call != 11;
        return thrown.equals(GateModel.INDEX) && index
                || thrown.equals(GateModel.ARGUMENT) && argument
                || thrown.equals(GateModel.STATE) && state;
    }

    private static void call(AccessGate gate, int call, int a, int b, int c) {
        switch (call) {
            case 0: gate.addPerson(a); break;
            case 1: gate.addMachine(a); break;
            case 2: gate.setLabel(a, b, c != 0); break;
            case 3: gate.takeAway(a, b); break;
            case 4: gate.ask(a, b, c); break;
            case 5: gate.approve(a, b); break;
            case 6: gate.deny(a, b); break;
            case 7: gate.askState(a); break;
            case 8: gate.enter(a, b); break;
            case 9: gate.lookAt(a, b); break;
            case 10: gate.overdue(a); break;
            case 11: gate.couldEnter(a, b, c); break;
            case 12: gate.open(a, b); break;
            case 13: gate.type(a, b); break;
            case 14: gate.letThrough(a, b); break;
            case 15: gate.close(a); break;
            case 16: gate.isOpen(a); break;
            case 17: gate.openSessions(); break;
            case 18: gate.pass(a); break;
            case 19: gate.clock(); gate.steps(); break;
            case 20: gate.kind(a); break;
            default: gate.seal(a);
        }
    }
}
