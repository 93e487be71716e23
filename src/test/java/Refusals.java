import java.util.List;
import java.util.function.BiConsumer;
import java.util.function.Consumer;
import java.util.function.Function;
import java.util.function.Supplier;

/** Checks that a gate refuses a call with the exception that is due, and is then as if it had not been called. */
final class Refusals {
    private static final int LEAST = Integer.MIN_VALUE;
    private static final int MOST = Integer.MAX_VALUE;

    private final Check check;
    private final Supplier<AccessGate> made;

    /** Each refusal is looked at on gates of its own, which the supplier makes alike. */
    Refusals(Check check, Supplier<AccessGate> made) {
        this.check = check;
        this.made = made;
    }

    void index(String what, Consumer<AccessGate> call) {
        refused(what, call, GateModel.INDEX);
    }

    void argument(String what, Consumer<AccessGate> call) {
        refused(what, call, GateModel.ARGUMENT);
    }

    void state(String what, Consumer<AccessGate> call) {
        refused(what, call, GateModel.STATE);
    }

    /** There are so many of the named rows: the numbers next to theirs, and those farthest away, are refused. */
    void noSuch(String what, int count, BiConsumer<AccessGate, Integer> call) {
        for (int number : new int[] {-1, count, LEAST, MOST}) {
            index(what + " " + number, gate -> call.accept(gate, number));
        }
    }

    /** The numbers next to the range, and those farthest away from it, are refused. */
    void outOfRange(String what, int least, int most, BiConsumer<AccessGate, Integer> call) {
        for (int number : new int[] {least - 1, most + 1, LEAST, MOST}) {
            argument(what + " " + number, gate -> call.accept(gate, number));
        }
    }

    private void refused(String what, Consumer<AccessGate> call, String want) {
        compare(what, call, want, Probe::atOnce);
        compare(what, call, want, Probe::byAndBy);
    }

    private void compare(String what, Consumer<AccessGate> call, String want, Function<AccessGate, List<String>> probe) {
        AccessGate refusing = made.get();
        String got = "nothing thrown";
        try {
            call.accept(refusing);
        } catch (RuntimeException e) {
            got = Check.thrown(e);
        }
        check.same(what, got, want);
        check.same("behind " + what, firstDifference(probe.apply(refusing), probe.apply(made.get())), "as without it");
    }

    private static String firstDifference(List<String> refusing, List<String> other) {
        for (int i = 0; i < refusing.size(); i++) {
            if (!refusing.get(i).equals(other.get(i))) {
                return refusing.get(i) + " and not: " + other.get(i);
            }
        }
        return "as without it";
    }
}
