/** Promises 1, 2, 4, 6, 7 and 13 to 16: transactions begin, work and end. */
public final class TransactionsTest {
    private static final Check CHECK = new Check();

    public static void main(String[] args) {
        promise1NewObject();
        promise2Begin();
        promise2BirthNumbersGoOn();
        promise2Refused();
        promise4Work();
        promise4Refused();
        promise6Commit();
        promise6ServesInOrder();
        promise6Refused();
        promise7RollBack();
        promise7OfAWaitingTransaction();
        promise7Refused();
        promises13To16Queries();
        promises13To16Refused();
        CHECK.end();
    }

    private static void promise1NewObject() {
        LockManager m = new LockManager();
        for (int t = 0; t < 8; t++) {
            CHECK.due("new: state", LockManager.IDLE, m.state(t));
            CHECK.due("new: workOf", LockManager.NONE, m.workOf(t));
            CHECK.due("new: abortsOf", LockManager.NONE, m.abortsOf(t));
            CHECK.due("new: birthOf", LockManager.NONE, m.birthOf(t));
            CHECK.due("new: awaited", LockManager.NONE, m.awaited(t));
            CHECK.due("new: waitsFor", 0, m.waitsFor(t));
            CHECK.due("new: blockers", 0, m.blockers(t));
            for (int r = 0; r < 10; r++) {
                CHECK.due("new: held", 0, m.held(t, r));
            }
        }
        for (int r = 0; r < 10; r++) {
            CHECK.due("new: holders", 0, m.holders(r));
            CHECK.due("new: queueLength", 0, m.queueLength(r));
            CHECK.due("new: queued", LockManager.NONE, m.queued(r, 0));
        }
        CHECK.due("new: brokenRings", 0, m.brokenRings());
        CHECK.due("new: lostWork", 0, m.lostWork());
        CHECK.due("new: locksHeld", 0, m.locksHeld());
        CHECK.due("new: savedStates", 0, m.savedStates());
        CHECK.due("new: textLength", 0, m.textLength());
        CHECK.due("new: errorPosition", 0, m.errorPosition());
        new LockManager().begin(0);
        CHECK.due("objects share nothing: state", LockManager.IDLE, m.state(0));
    }

    private static void promise2Begin() {
        LockManager m = new LockManager();
        CHECK.due("begin(7)", 0, m.begin(7));
        CHECK.due("begin(0)", 1, m.begin(0));
        CHECK.due("state after begin", LockManager.ACTIVE, m.state(7));
        CHECK.due("state of another", LockManager.IDLE, m.state(1));
        CHECK.due("work after begin", 0, m.workOf(7));
        CHECK.due("aborts after begin", 0, m.abortsOf(7));
        CHECK.due("birth of the first", 0, m.birthOf(7));
        CHECK.due("birth of the second", 1, m.birthOf(0));
        CHECK.due("begin saves the state", 2, m.savedStates());
    }

    private static void promise2BirthNumbersGoOn() {
        LockManager m = Setup.begun(3);
        m.work(1, 5);
        m.commit(1);
        m.rollBack(2);
        CHECK.due("begin again after commit", 3, m.begin(1));
        CHECK.due("work of the new life", 0, m.workOf(1));
        CHECK.due("begin again after rollBack", 4, m.begin(2));
        CHECK.due("the older birth stays", 0, m.birthOf(0));
        LockManager victim = Setup.ran("b0;b1;x00;x11;x01;x10");
        CHECK.due("the victim was aborted once", 1, victim.abortsOf(1));
        CHECK.due("a victim keeps its birth", 1, victim.birthOf(1));
        victim.rollBack(1);
        CHECK.due("begin after an abort", 2, victim.begin(1));
        CHECK.due("aborts of the new life", 0, victim.abortsOf(1));
    }

    private static void promise2Refused() {
        LockManager m = Setup.begun(1);
        CHECK.refused("begin(-1)", m, IndexOutOfBoundsException.class, () -> m.begin(-1));
        LockManager n = Setup.begun(1);
        CHECK.refused("begin(8)", n, IndexOutOfBoundsException.class, () -> n.begin(8));
        LockManager active = Setup.begun(1);
        CHECK.refused("begin of an active one", active, IllegalStateException.class, () -> active.begin(0));
        CHECK.due("the refused begin took no birth number", 1, active.begin(1));
        LockManager waiting = Setup.ran("b0;b1;x00;x10");
        CHECK.refused("begin of a waiting one", waiting, IllegalStateException.class, () -> waiting.begin(1));
    }

    private static void promise4Work() {
        LockManager m = Setup.begun(2);
        CHECK.due("work(0, 1)", 1, m.work(0, 1));
        CHECK.due("work(0, 1000)", 1001, m.work(0, 1000));
        CHECK.due("workOf(0)", 1001, m.workOf(0));
        CHECK.due("work of the other", 0, m.workOf(1));
        CHECK.due("work saves the state", 4, m.savedStates());
        m.request(0, 0, LockManager.SHARED);
        CHECK.due("a lock is work too", 1007, m.work(0, 5));
    }

    private static void promise4Refused() {
        Class<? extends RuntimeException> bounds = IndexOutOfBoundsException.class;
        Class<? extends RuntimeException> argument = IllegalArgumentException.class;
        Class<? extends RuntimeException> state = IllegalStateException.class;
        int[][] calls = {{-1, 5, 0}, {8, 0, 0}, {0, 0, 1}, {0, 1001, 1}, {0, -1, 1}, {0, Integer.MIN_VALUE, 1},
            {0, Integer.MAX_VALUE, 1}, {2, 0, 1}, {2, 1, 2}, {1, 1, 2}, {1, 1001, 1}};
        for (int[] call : calls) {
            LockManager m = Setup.ran("b0;b1;x00;x10");
            Class<? extends RuntimeException> due = call[2] == 0 ? bounds : call[2] == 1 ? argument : state;
            CHECK.refused("work(" + call[0] + ", " + call[1] + ")", m, due, () -> m.work(call[0], call[1]));
        }
    }

    private static void promise6Commit() {
        LockManager m = Setup.begun(2);
        m.request(0, 3, LockManager.EXCLUSIVE);
        m.request(0, 4, LockManager.SHARED);
        int saved = m.savedStates();
        CHECK.due("commit with nobody waiting", 0, m.commit(0));
        CHECK.due("commit saves the state", saved + 1, m.savedStates());
        CHECK.due("state after commit", LockManager.IDLE, m.state(0));
        CHECK.due("work after commit", LockManager.NONE, m.workOf(0));
        CHECK.due("aborts after commit", LockManager.NONE, m.abortsOf(0));
        CHECK.due("birth after commit", LockManager.NONE, m.birthOf(0));
        CHECK.due("locks after commit", 0, m.locksHeld());
        CHECK.due("commit of the other", 0, m.commit(1));
    }

    private static void promise6ServesInOrder() {
        LockManager m = Setup.ran("b0;b1;b2;b3;b4;b5;x00;x09;s10;s20;x30;s40;s59");
        CHECK.due("commit grants two at 0 and one at 9", 3, m.commit(0));
        CHECK.due("the first shared one is granted", LockManager.SHARED, m.held(1, 0));
        CHECK.due("the second shared one is granted", LockManager.SHARED, m.held(2, 0));
        CHECK.due("a granted one is active", LockManager.ACTIVE, m.state(2));
        CHECK.due("a granted one waits no longer", LockManager.NONE, m.awaited(2));
        CHECK.due("a grant from the queue is work", 1, m.workOf(2));
        CHECK.due("the exclusive one waits", LockManager.WAITING, m.state(3));
        CHECK.due("the shared one behind it waits", LockManager.WAITING, m.state(4));
        CHECK.due("the queue of 9 is served", LockManager.SHARED, m.held(5, 9));
        CHECK.due("commit of a shared holder", 0, m.commit(1));
        CHECK.due("commit of the last shared holder", 1, m.commit(2));
        CHECK.due("now the exclusive one holds", LockManager.EXCLUSIVE, m.held(3, 0));
        CHECK.due("the last one still waits", LockManager.WAITING, m.state(4));
    }

    private static void promise6Refused() {
        LockManager low = Setup.begun(1);
        CHECK.refused("commit(-1)", low, IndexOutOfBoundsException.class, () -> low.commit(-1));
        LockManager high = Setup.begun(1);
        CHECK.refused("commit(8)", high, IndexOutOfBoundsException.class, () -> high.commit(8));
        LockManager idle = Setup.begun(1);
        CHECK.refused("commit of an idle one", idle, IllegalStateException.class, () -> idle.commit(1));
        LockManager waiting = Setup.ran("b0;b1;x00;x10");
        CHECK.refused("commit of a waiting one", waiting, IllegalStateException.class, () -> waiting.commit(1));
    }

    private static void promise7RollBack() {
        LockManager m = Setup.ran("b0;b1;b2;w0,7;x00;x10;s20");
        CHECK.due("rollBack of the holder", 1, m.rollBack(0));
        CHECK.due("state after rollBack", LockManager.IDLE, m.state(0));
        CHECK.due("work after rollBack", LockManager.NONE, m.workOf(0));
        CHECK.due("the next one holds", LockManager.EXCLUSIVE, m.held(1, 0));
        CHECK.due("rollBack breaks no ring", 0, m.brokenRings());
        CHECK.due("rollBack loses no work", 0, m.lostWork());
        CHECK.due("rollBack saves the state", 2, m.savedStates());
    }

    private static void promise7OfAWaitingTransaction() {
        LockManager m = Setup.ran("b0;b1;b2;b3;s00;x11;x10;s20;s31");
        CHECK.due("rollBack of a waiting one frees the queue and its lock", 2, m.rollBack(1));
        CHECK.due("it is idle", LockManager.IDLE, m.state(1));
        CHECK.due("it awaits nothing", LockManager.NONE, m.awaited(1));
        CHECK.due("its request is gone", 0, m.queueLength(0));
        CHECK.due("the shared one behind it holds", LockManager.SHARED, m.held(2, 0));
        CHECK.due("its lock has gone to the next", LockManager.SHARED, m.held(3, 1));
        CHECK.due("rollBack twice", 0, m.rollBack(2));
    }

    private static void promise7Refused() {
        LockManager low = Setup.begun(1);
        CHECK.refused("rollBack(-1)", low, IndexOutOfBoundsException.class, () -> low.rollBack(-1));
        LockManager high = Setup.begun(1);
        CHECK.refused("rollBack(8)", high, IndexOutOfBoundsException.class, () -> high.rollBack(8));
        LockManager idle = Setup.begun(1);
        CHECK.refused("rollBack of an idle one", idle, IllegalStateException.class, () -> idle.rollBack(1));
    }

    private static void promises13To16Queries() {
        LockManager m = Setup.ran("b5;b0;b1;x00;x11;w0,9;x01;x10;s10;w1,3");
        CHECK.due("state of an active one", LockManager.ACTIVE, m.state(5));
        CHECK.due("state of an idle one", LockManager.IDLE, m.state(2));
        m.request(5, 1, LockManager.SHARED);
        CHECK.due("state of a waiting one", LockManager.WAITING, m.state(5));
        CHECK.due("workOf a waiting one", 0, m.workOf(5));
        CHECK.due("workOf of the one that got both", 11, m.workOf(0));
        CHECK.due("workOf the victim, which waits again", 0, m.workOf(1));
        CHECK.due("abortsOf the victim", 1, m.abortsOf(1));
        CHECK.due("abortsOf the other", 0, m.abortsOf(0));
        CHECK.due("birthOf", 2, m.birthOf(1));
        CHECK.due("birthOf a waiting one", 0, m.birthOf(5));
    }

    private static void promises13To16Refused() {
        for (int t : new int[] {-1, 8, Integer.MIN_VALUE, Integer.MAX_VALUE}) {
            LockManager m = new LockManager();
            Class<? extends RuntimeException> bounds = IndexOutOfBoundsException.class;
            CHECK.refused("state(" + t + ")", m, bounds, () -> m.state(t));
            LockManager n = new LockManager();
            CHECK.refused("workOf(" + t + ")", n, bounds, () -> n.workOf(t));
            LockManager o = new LockManager();
            CHECK.refused("abortsOf(" + t + ")", o, bounds, () -> o.abortsOf(t));
            LockManager p = new LockManager();
            CHECK.refused("birthOf(" + t + ")", p, bounds, () -> p.birthOf(t));
        }
    }
}
