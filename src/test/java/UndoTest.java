/** Promises 12 and 29: states are saved and restored. */
public final class UndoTest {
    private static final Check CHECK = new Check();

    public static void main(String[] args) {
        promise12UndoesEachCall();
        promise12GivesTheBirthNumberBack();
        promise12RestoresStatistics();
        promise12LeavesTheText();
        promise12SavesUnchangedStatesToo();
        promise12SeveralStates();
        promise12Refused();
        promise29NineStates();
        promise29AfterDiscarding();
        promise29NotByQueries();
        CHECK.end();
    }

    private interface Change {
        void on(LockManager m);
    }

    private static void promise12UndoesEachCall() {
        undone("begin", m -> m.begin(7));
        undone("a granted request", m -> m.request(0, 5, LockManager.SHARED));
        undone("a queued request", m -> m.request(0, 2, LockManager.SHARED));
        undone("a request that breaks a ring", m -> m.request(0, 1, LockManager.EXCLUSIVE));
        undone("work", m -> m.work(0, 9));
        undone("withdraw", m -> m.withdraw(1));
        undone("commit", m -> m.commit(0));
        undone("rollBack", m -> m.rollBack(1));
        undone("runText", LockManager::runText);
    }

    private static void undone(String what, Change change) {
        LockManager m = Setup.ran("b0;b1;b2;b3;s00;x11;x22;x10;s30");
        Setup.append(m, "w0,3;c0;w2,4;x30");
        String before = Snapshot.of(m);
        change.on(m);
        CHECK.due(what + " is saved", 2, m.savedStates());
        CHECK.due("undo of " + what, 1, m.undo());
        CHECK.due("the state after undo of " + what, before, Snapshot.of(m));
    }

    private static void promise12GivesTheBirthNumberBack() {
        LockManager m = Setup.begun(2);
        m.undo();
        CHECK.due("the birth number after undo of begin", 1, m.begin(5));
        m.undo();
        m.undo();
        CHECK.due("the first birth number", 0, m.begin(6));
    }

    private static void promise12RestoresStatistics() {
        LockManager m = Setup.ran("b0;b1;x00;x11;x01");
        m.request(1, 0, LockManager.EXCLUSIVE);
        CHECK.due("brokenRings", 1, m.brokenRings());
        CHECK.due("lostWork", 1, m.lostWork());
        m.undo();
        CHECK.due("brokenRings after undo", 0, m.brokenRings());
        CHECK.due("lostWork after undo", 0, m.lostWork());
        CHECK.due("the requester is active again", LockManager.ACTIVE, m.state(1));
        CHECK.due("the other one waits again", 0b10, m.waitsFor(0));
        CHECK.due("the same once more", LockManager.ABORTED, m.request(1, 0, LockManager.EXCLUSIVE));
    }

    private static void promise12LeavesTheText() {
        LockManager m = Setup.withText("b0");
        m.runText();
        m.appendText(';');
        m.undo();
        CHECK.due("the text stays", 3, m.textLength());
        CHECK.due("its error too", 3, m.errorPosition());
    }

    private static void promise12SavesUnchangedStatesToo() {
        LockManager m = Setup.ran("b0;s00");
        m.request(0, 0, LockManager.SHARED);
        CHECK.due("a request that changes nothing", 2, m.savedStates());
        Setup.append(m, "b0");
        CHECK.due("a text that does nothing", 0, m.runText());
        CHECK.due("is saved", 3, m.savedStates());
        m.undo();
        m.undo();
        CHECK.due("the lock stays", LockManager.SHARED, m.held(0, 0));
        m.undo();
        CHECK.due("now it is gone", 0, m.held(0, 0));
    }

    private static void promise12SeveralStates() {
        LockManager m = Setup.begun(1);
        for (int i = 1; i <= 5; i++) {
            m.work(0, i);
        }
        CHECK.due("undo", 5, m.undo());
        CHECK.due("work 1 to 4", 10, m.workOf(0));
        CHECK.due("undo", 4, m.undo());
        CHECK.due("work 1 to 3", 6, m.workOf(0));
        CHECK.due("other work", 106, m.work(0, 100));
        CHECK.due("undo of the other work", 4, m.undo());
        CHECK.due("work 1 to 3", 6, m.workOf(0));
        CHECK.due("undo", 3, m.undo());
        CHECK.due("work 1 and 2", 3, m.workOf(0));
    }

    private static void promise12Refused() {
        LockManager m = Setup.withText("b0");
        CHECK.refused("undo of nothing", m, IllegalStateException.class, () -> m.undo());
        LockManager n = Setup.begun(1);
        CHECK.due("undo of begin", 0, n.undo());
        CHECK.refused("undo once too often", n, IllegalStateException.class, () -> n.undo());
    }

    private static void promise29NineStates() {
        LockManager m = Setup.begun(1);
        for (int i = 2; i <= 8; i++) {
            m.work(0, 1);
            CHECK.due("savedStates", i, m.savedStates());
        }
        m.work(0, 1);
        CHECK.due("the ninth takes the place of the oldest", 8, m.savedStates());
        for (int i = 7; i >= 0; i--) {
            CHECK.due("undo", i, m.undo());
            CHECK.due("workOf after undo", i, m.workOf(0));
        }
        CHECK.due("begin can be undone no more", LockManager.ACTIVE, m.state(0));
        CHECK.refused("the ninth undo", m, IllegalStateException.class, () -> m.undo());
    }

    private static void promise29AfterDiscarding() {
        LockManager m = Setup.begun(1);
        for (int i = 1; i <= 30; i++) {
            m.work(0, 1);
        }
        for (int i = 1; i <= 5; i++) {
            m.undo();
        }
        CHECK.due("work after five undos", 25, m.workOf(0));
        for (int i = 1; i <= 7; i++) {
            m.work(0, 100);
        }
        CHECK.due("eight states again", 8, m.savedStates());
        for (int i = 6; i >= 0; i--) {
            m.undo();
            CHECK.due("work after undo", 25 + 100 * i, m.workOf(0));
        }
        CHECK.due("the last one", 0, m.undo());
        CHECK.due("is from before", 24, m.workOf(0));
    }

    private static void promise29NotByQueries() {
        LockManager m = Setup.begun(1);
        m.ifRequested(0, 0, LockManager.SHARED);
        m.victimsOf(0, 0, LockManager.SHARED);
        m.appendText('b');
        m.errorPosition();
        m.clearText();
        Snapshot.of(m);
        CHECK.due("queries and texts save nothing", 1, m.savedStates());
    }
}
