import java.util.function.Supplier;
import java.util.function.ToIntFunction;

/** Calls that are refused: which exception they throw, and that nothing has changed behind them. */
final class Refused {
    static final Class<? extends RuntimeException> BOUNDS = IndexOutOfBoundsException.class;
    static final Class<? extends RuntimeException> ARGUMENT = IllegalArgumentException.class;
    static final Class<? extends RuntimeException> STATE = IllegalStateException.class;

    // First the numbers just below and just above the range, then the farthest ones.
    static final int[] NO_TRANSACTIONS = {-1, 8, Integer.MIN_VALUE, Integer.MAX_VALUE};
    static final int[] NO_RESOURCES = {-1, 10, Integer.MIN_VALUE, Integer.MAX_VALUE};
    static final int[] NO_MODES = {0, 3, -1, Integer.MIN_VALUE, Integer.MAX_VALUE};
    static final int[] NO_AMOUNTS = {0, 1001, -1, Integer.MIN_VALUE, Integer.MAX_VALUE};
    static final int[] NO_CHARACTERS = {31, 127, 0, -1, Integer.MIN_VALUE, Integer.MAX_VALUE};

    private Refused() {
    }

    static void in(Check check, Supplier<LockManager> scene, Class<? extends RuntimeException> want, String what,
            ToIntFunction<LockManager> call) {
        check.due(what, want.getName(), answer(scene.get(), call));
        Traces.none(check, what, scene, m -> answer(m, call));
    }

    static void everywhere(Check check, Class<? extends RuntimeException> want, String what,
            ToIntFunction<LockManager> call) {
        for (Supplier<LockManager> scene : Scenes.ALL) {
            in(check, scene, want, what, call);
        }
    }

    /** The answer of a call, or the name of what it threw. */
    static String answer(LockManager m, ToIntFunction<LockManager> call) {
        try {
            return Integer.toString(call.applyAsInt(m));
        } catch (RuntimeException e) {
            return e.getClass().getName();
        }
    }
}
