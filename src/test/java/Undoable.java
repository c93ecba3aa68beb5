import java.util.function.Consumer;
import java.util.function.Supplier;

/** Calls that save the state: one state more, the oldest one's place for a ninth, and the way back. */
final class Undoable {
    private Undoable() {
    }

    static void in(Check check, Supplier<LockManager> scene, String what, Consumer<LockManager> call) {
        LockManager m = scene.get();
        String before = Snapshot.stateOf(m);
        int saved = Math.min(8, m.savedStates() + 1);
        call.accept(m);
        check.due(what + ": savedStates", saved, m.savedStates());
        check.due(what + ": undo", saved - 1, m.undo());
        check.due(what + ": the state after undo", before, Snapshot.stateOf(m));
        for (int times = 1; times < saved; times++) {
            check.due(what + ": the states saved before it", olderState(scene.get(), times),
                    olderStateBehind(scene.get(), call, times));
        }
        LockManager emptied = scene.get();
        call.accept(emptied);
        Traces.undone(emptied, saved);
        check.due(what + ": the oldest state", Refused.STATE.getName(), Refused.answer(emptied, LockManager::undo));
    }

    private static String olderState(LockManager m, int times) {
        Traces.undone(m, times);
        return Snapshot.stateOf(m);
    }

    private static String olderStateBehind(LockManager m, Consumer<LockManager> call, int times) {
        call.accept(m);
        return olderState(m, times + 1);
    }
}
