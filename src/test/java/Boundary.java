import java.util.ArrayList;
import java.util.Arrays;
import java.util.List;
import java.util.function.Supplier;

/**
 * What the tests of the boundaries ask. Each look is taken at an object of its own, made anew in the same way: a look
 * at all that an object keeps takes it apart, and an object is good for 512 calls alone.
 */
final class Boundary {
    static final int MAX = Integer.MAX_VALUE, MIN = Integer.MIN_VALUE;
    private static final int MOST_STATES = 6;
    /** What an object is asked behind a call that should have changed nothing: one call of each kind that changes something. */
    private static final Call[] LATER = {
        x -> x.append(1, 3, 2), x -> x.insert(0, 0, 3, 1), x -> x.remove(0, 0, 1), x -> x.set(0, 0, 7), x -> x.sort(0), x -> x.turn(2, 0),
        x -> x.merge(2, 0, 1, 1), x -> Checks.carryOut(x, "2=1,2"), x -> x.put(';'), JoinedRuns::wipe, x -> x.save(1)};

    private Boundary() {
    }

    interface Call {
        int on(JoinedRuns x);
    }

    interface CallWith {
        int on(JoinedRuns x, int argument);
    }

    /** The first values that are not allowed on either side, the least and the greatest int, and some that lose bits. */
    static int[] outside(int least, int most) {
        int[] all = {least - 1, most + 1, MIN, MAX, MIN + 1, -(most + 1), 256 + least, 65536 + least, 1 << 30};
        return Arrays.stream(all).filter(one -> one < least || one > most).toArray();
    }

    /** A call that is refused answers its error, and nothing is different then. */
    static void refused(String name, Supplier<JoinedRuns> made, Call call, int error) {
        Checks.due(name, call.on(made.get()), error);
        changesNothing(name, made, call);
    }

    /** The same for several arguments; the name tells where they stand by %d. */
    static void refusedFor(int[] arguments, String name, Supplier<JoinedRuns> made, CallWith call, int error) {
        for (int argument : arguments) {
            refused(String.format(name, argument), made, x -> call.on(x, argument), error);
        }
    }

    /** A question answers what is due, and nothing is different then. */
    static void asked(String name, Supplier<JoinedRuns> made, Call call, int due) {
        refused(name, made, call, due);
    }

    static void changesNothing(String name, Supplier<JoinedRuns> made, Call call) {
        List<String> before = everything(made);
        List<String> after = everything(() -> {
            JoinedRuns x = made.get();
            call.on(x);
            return x;
        });
        for (int k = 0; k < before.size(); k++) {
            Checks.due(name + " leaves as it was", after.get(k), before.get(k));
        }
    }

    /** All that an object keeps: its columns and pad, the states that can be undone, the slots, the orders on the pad, and what comes of later calls. */
    private static List<String> everything(Supplier<JoinedRuns> made) {
        List<String> all = new ArrayList<>();
        for (int undone = 0; undone <= MOST_STATES + 1; undone++) {
            JoinedRuns x = made.get();
            StringBuilder answers = new StringBuilder("undone:");
            for (int k = 0; k < undone; k++) {
                answers.append(' ').append(x.undo());
            }
            all.add(answers + " " + Checks.look(x));
        }
        for (int slot = 0; slot < 2; slot++) {
            JoinedRuns x = made.get();
            all.add("slot " + slot + ": " + x.restore(slot) + " " + Checks.look(x));
        }
        JoinedRuns x = made.get();
        all.add("orders: " + x.carryOut() + " " + Checks.look(x));
        for (int k = 0; k < LATER.length; k++) {
            JoinedRuns y = made.get();
            all.add("later call " + k + ": " + LATER[k].on(y) + " " + Checks.look(y));
        }
        return all;
    }

    /** A change records the state before it, whether the history is empty, has room for one more or is full. */
    static void isChange(String name, Call call) {
        recordsOne(name + " with an empty history", Made::withoutHistory, call, 0);
        recordsOne(name + " with room for one state", Made::withRoomForOne, call, 5);
        recordsOne(name + " with a full history", Made::withAll, call, 6);
    }

    static void recordsOne(String name, Supplier<JoinedRuns> made, Call call, int kept) {
        List<String> before = statesOf(made.get());
        Checks.due("how many states there are before " + name, before.size(), kept + 1);
        JoinedRuns x = made.get();
        Checks.due(name + " answers no error", call.on(x) >= 0, true);
        List<String> after = statesOf(x);
        List<String> due = new ArrayList<>(before.subList(0, Math.min(kept + 1, MOST_STATES)));
        Checks.due("how many states there are behind " + name, after.size(), due.size() + 1);
        Checks.due("the states behind " + name, after.subList(1, after.size()), due);
    }

    /** What is no change leaves the columns and the history as they were, whatever it does to the pad and the slots. */
    static void recordsNone(String name, Supplier<JoinedRuns> made, Call call) {
        JoinedRuns x = made.get();
        call.on(x);
        Checks.due("the states behind " + name, statesOf(x), statesOf(made.get()));
    }

    /** The columns now and before each change that can be undone, the latest first. */
    private static List<String> statesOf(JoinedRuns x) {
        List<String> states = new ArrayList<>();
        int kept = x.count(3);
        states.add(Checks.columns(x));
        for (int left = kept - 1; left >= 0 && left < MOST_STATES; left--) {
            Checks.due("undo", x.undo(), left);
            states.add(Checks.columns(x));
        }
        Checks.due("undo behind the last one", x.undo(), JoinedRuns.NOT_POSSIBLE);
        return states;
    }
}
