import java.util.List;
import java.util.function.Supplier;

/** Managers in three states, between which each boundary of the document is met on both sides. */
final class Scenes {
    static final List<Supplier<LockManager>> ALL = List.of(Scenes::fresh, Scenes::busy, Scenes::crowded);

    private Scenes() {
    }

    /** All are idle, nothing is saved, the text is empty. */
    static LockManager fresh() {
        return new LockManager();
    }

    /**
     * 0 and 2 are active, 1 was a victim and waits for 0, 3 to 7 are idle. Nine states were saved,
     * so the history is full, and the text has begun a command.
     */
    static LockManager busy() {
        LockManager m = Setup.begun(3);
        m.request(0, 0, LockManager.EXCLUSIVE);
        m.request(1, 1, LockManager.EXCLUSIVE);
        m.request(0, 1, LockManager.EXCLUSIVE);
        m.request(1, 0, LockManager.EXCLUSIVE);
        m.request(1, 0, LockManager.SHARED);
        m.work(0, 40);
        Setup.append(m, "b3;w0,7;c");
        return m;
    }

    /** 0 to 6 are active, 7 waits for 0, none is idle. One state is saved, and the text is full and valid. */
    static LockManager crowded() {
        LockManager m = Setup.ran("b7;b6;b5;b4;b3;b2;b1;b0;x09;x79");
        Setup.append(m, "w1,5;".repeat(15) + "w1,50");
        return m;
    }
}
