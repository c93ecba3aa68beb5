/** Promises 3, 5, 17, 18, 21 to 23 and 28: requests, locks and queues. */
public final class RequestsTest {
    private static final Check CHECK = new Check();
    private static final int SHARED = LockManager.SHARED;
    private static final int EXCLUSIVE = LockManager.EXCLUSIVE;
    private static final int GRANTED = LockManager.GRANTED;
    private static final int QUEUED = LockManager.QUEUED;

    public static void main(String[] args) {
        promise3HeldAlready();
        promise3OnlyHolderUpgrades();
        promise3UpgradePassesTheQueue();
        promise3UpgradesStandFirst();
        promise3FreeAndCompatible();
        promise3NobodyPassesTheQueue();
        promise3Refused();
        promise5Withdraw();
        promise5Refused();
        promise17And28Locks();
        promise17Refused();
        promise18Awaited();
        promise18Refused();
        promise21Holders();
        promises22And23Queues();
        promises21To23Refused();
        CHECK.end();
    }

    private static void promise3HeldAlready() {
        LockManager m = Setup.begun(2);
        CHECK.due("shared lock", GRANTED, m.request(0, 0, SHARED));
        CHECK.due("work after a grant", 1, m.workOf(0));
        CHECK.due("the same once more", GRANTED, m.request(0, 0, SHARED));
        CHECK.due("no work for it", 1, m.workOf(0));
        CHECK.due("it is undoable all the same", 4, m.savedStates());
        CHECK.due("exclusive lock", GRANTED, m.request(1, 9, EXCLUSIVE));
        CHECK.due("the same once more", GRANTED, m.request(1, 9, EXCLUSIVE));
        CHECK.due("shared under exclusive", GRANTED, m.request(1, 9, SHARED));
        CHECK.due("the lock stays exclusive", EXCLUSIVE, m.held(1, 9));
        CHECK.due("work only for the first", 1, m.workOf(1));
    }

    private static void promise3OnlyHolderUpgrades() {
        LockManager m = Setup.ran("b0;s00");
        CHECK.due("upgrade of the only holder", GRANTED, m.request(0, 0, EXCLUSIVE));
        CHECK.due("it holds exclusively", EXCLUSIVE, m.held(0, 0));
        CHECK.due("an upgrade is work", 2, m.workOf(0));
        CHECK.due("it counts once", 1, m.locksHeld());
    }

    private static void promise3UpgradePassesTheQueue() {
        LockManager m = Setup.ran("b0;b1;b2;s00;x10;s20");
        CHECK.due("upgrade with a queue", GRANTED, m.request(0, 0, EXCLUSIVE));
        CHECK.due("it holds exclusively", EXCLUSIVE, m.held(0, 0));
        CHECK.due("the queue stays", 2, m.queueLength(0));
        CHECK.due("both wait for it", 0b001, m.waitsFor(1));
        CHECK.due("the second one for the first too", 0b011, m.waitsFor(2));
    }

    private static void promise3UpgradesStandFirst() {
        LockManager m = Setup.ran("b0;b1;b2;b3;b4;s00;s10;s20;x30;s40");
        CHECK.due("an upgrade with other holders", QUEUED, m.request(1, 0, EXCLUSIVE));
        CHECK.due("it keeps its shared lock", SHARED, m.held(1, 0));
        CHECK.due("the upgrade is first", 12, m.queued(0, 0));
        CHECK.due("then the exclusive one", 32, m.queued(0, 1));
        CHECK.due("then the shared one", 41, m.queued(0, 2));
        CHECK.due("the queue", 3, m.queueLength(0));
    }

    private static void promise3FreeAndCompatible() {
        LockManager m = Setup.begun(4);
        CHECK.due("shared", GRANTED, m.request(0, 0, SHARED));
        CHECK.due("shared beside it", GRANTED, m.request(1, 0, SHARED));
        CHECK.due("exclusive has to wait", QUEUED, m.request(2, 0, EXCLUSIVE));
        CHECK.due("no work for waiting", 0, m.workOf(2));
        CHECK.due("it holds nothing", 0, m.held(2, 0));
        CHECK.due("it is waiting", LockManager.WAITING, m.state(2));
        CHECK.due("exclusive elsewhere", GRANTED, m.request(3, 1, EXCLUSIVE));
        CHECK.due("shared beside exclusive has to wait", QUEUED, m.request(1, 1, SHARED));
    }

    private static void promise3NobodyPassesTheQueue() {
        LockManager m = Setup.ran("b0;b1;b2;s00;x10");
        CHECK.due("compatible, but with a queue", QUEUED, m.request(2, 0, SHARED));
        CHECK.due("at its end", 21, m.queued(0, 1));
        CHECK.due("it waits for the one ahead", 0b010, m.waitsFor(2));
    }

    private static void promise3Refused() {
        int[][] calls = {{-1, 0, 1, 0}, {8, 0, 1, 0}, {0, -1, 1, 0}, {0, 10, 1, 0}, {8, 10, 3, 0}, {2, 10, 0, 0},
            {0, 0, 0, 1}, {0, 0, 3, 1}, {0, 0, -1, 1}, {2, 0, 3, 1}, {1, 0, 0, 1}, {2, 0, 1, 2}, {1, 0, 2, 2},
            {1, 1, 1, 2}};
        for (int[] c : calls) {
            LockManager m = Setup.ran("b0;b1;x00;x10");
            CHECK.refused("request(" + c[0] + ", " + c[1] + ", " + c[2] + ")", m, exception(c[3]),
                    () -> m.request(c[0], c[1], c[2]));
        }
    }

    private static Class<? extends RuntimeException> exception(int number) {
        if (number == 0) {
            return IndexOutOfBoundsException.class;
        }
        return number == 1 ? IllegalArgumentException.class : IllegalStateException.class;
    }

    private static void promise5Withdraw() {
        LockManager m = Setup.ran("b0;b1;b2;b3;s00;x10;s20;s30;w0,3");
        int saved = m.savedStates();
        CHECK.due("withdraw lets two pass", 2, m.withdraw(1));
        CHECK.due("withdraw saves the state", saved + 1, m.savedStates());
        CHECK.due("it is active", LockManager.ACTIVE, m.state(1));
        CHECK.due("it awaits nothing", LockManager.NONE, m.awaited(1));
        CHECK.due("it has no work for it", 0, m.workOf(1));
        CHECK.due("the holders", 0b1101, m.holders(0));
        CHECK.due("the queue", 0, m.queueLength(0));
        LockManager kept = Setup.ran("b0;b1;b2;x00;x11;s10;s20");
        CHECK.due("withdraw behind a holder", 0, kept.withdraw(1));
        CHECK.due("withdraw keeps the locks", EXCLUSIVE, kept.held(1, 1));
        CHECK.due("the other is first now", 21, kept.queued(0, 0));
        CHECK.due("withdraw counts no ring", 0, kept.brokenRings());
        LockManager upgrade = Setup.ran("b0;b1;s00;s10;x10");
        CHECK.due("withdraw of an upgrade", 0, upgrade.withdraw(1));
        CHECK.due("the shared lock stays", SHARED, upgrade.held(1, 0));
    }

    private static void promise5Refused() {
        LockManager low = Setup.begun(1);
        CHECK.refused("withdraw(-1)", low, IndexOutOfBoundsException.class, () -> low.withdraw(-1));
        LockManager high = Setup.begun(1);
        CHECK.refused("withdraw(8)", high, IndexOutOfBoundsException.class, () -> high.withdraw(8));
        LockManager active = Setup.begun(1);
        CHECK.refused("withdraw of an active one", active, IllegalStateException.class, () -> active.withdraw(0));
        LockManager idle = Setup.begun(1);
        CHECK.refused("withdraw of an idle one", idle, IllegalStateException.class, () -> idle.withdraw(7));
    }

    private static void promise17And28Locks() {
        LockManager m = Setup.begun(8);
        m.request(7, 9, SHARED);
        m.request(0, 9, SHARED);
        m.request(7, 0, EXCLUSIVE);
        CHECK.due("held shared", SHARED, m.held(7, 9));
        CHECK.due("held exclusive", EXCLUSIVE, m.held(7, 0));
        CHECK.due("held by nobody", 0, m.held(0, 0));
        CHECK.due("held elsewhere", 0, m.held(7, 8));
        CHECK.due("locksHeld", 3, m.locksHeld());
        m.request(1, 0, SHARED);
        CHECK.due("a request is no lock", 0, m.held(1, 0));
        CHECK.due("nor is it counted", 3, m.locksHeld());
        m.commit(7);
        CHECK.due("locksHeld after commit", 2, m.locksHeld());
        CHECK.due("the request became a lock", SHARED, m.held(1, 0));
    }

    private static void promise17Refused() {
        int[][] calls = {{-1, 0}, {8, 0}, {0, -1}, {0, 10}, {8, 10}, {Integer.MAX_VALUE, 0}, {0, Integer.MIN_VALUE}};
        for (int[] c : calls) {
            LockManager m = Setup.begun(1);
            CHECK.refused("held(" + c[0] + ", " + c[1] + ")", m, IndexOutOfBoundsException.class,
                    () -> m.held(c[0], c[1]));
        }
    }

    private static void promise18Awaited() {
        LockManager m = Setup.ran("b0;b1;b2;x09;x00;x19;x20");
        CHECK.due("awaited(1)", 9, m.awaited(1));
        CHECK.due("awaited(2)", 0, m.awaited(2));
        CHECK.due("awaited of an active one", LockManager.NONE, m.awaited(0));
        CHECK.due("awaited of an idle one", LockManager.NONE, m.awaited(7));
    }

    private static void promise18Refused() {
        for (int t : new int[] {-1, 8}) {
            LockManager m = Setup.begun(1);
            CHECK.refused("awaited(" + t + ")", m, IndexOutOfBoundsException.class, () -> m.awaited(t));
        }
    }

    private static void promise21Holders() {
        LockManager m = Setup.begun(8);
        m.request(7, 9, SHARED);
        m.request(0, 9, SHARED);
        m.request(3, 9, SHARED);
        m.request(4, 9, EXCLUSIVE);
        m.request(5, 8, EXCLUSIVE);
        CHECK.due("holders of shared locks", 0b10001001, m.holders(9));
        CHECK.due("holder of an exclusive lock", 0b00100000, m.holders(8));
        CHECK.due("no holders", 0, m.holders(0));
    }

    private static void promises22And23Queues() {
        LockManager m = Setup.begun(8);
        m.request(3, 9, EXCLUSIVE);
        int[] order = {7, 0, 1, 2, 4, 5, 6};
        for (int t : order) {
            m.request(t, 9, t % 2 == 0 ? EXCLUSIVE : SHARED);
        }
        CHECK.due("a full queue", 7, m.queueLength(9));
        CHECK.due("the queue of another", 0, m.queueLength(8));
        for (int i = 0; i < 7; i++) {
            CHECK.due("queued(9, " + i + ")", 10 * order[i] + (order[i] % 2 == 0 ? EXCLUSIVE : SHARED), m.queued(9, i));
        }
        CHECK.due("queued behind the last", LockManager.NONE, m.queued(9, 7));
        CHECK.due("queued far behind", LockManager.NONE, m.queued(9, 8));
        CHECK.due("queued very far behind", LockManager.NONE, m.queued(9, Integer.MAX_VALUE));
        m.withdraw(1);
        CHECK.due("one less", 6, m.queueLength(9));
        CHECK.due("the ones ahead stay", 2, m.queued(9, 1));
        CHECK.due("the ones behind move up", 22, m.queued(9, 2));
        CHECK.due("the last place is empty", LockManager.NONE, m.queued(9, 6));
    }

    private static void promises21To23Refused() {
        Class<? extends RuntimeException> bounds = IndexOutOfBoundsException.class;
        for (int r : new int[] {-1, 10, Integer.MAX_VALUE, Integer.MIN_VALUE}) {
            LockManager m = Setup.begun(1);
            CHECK.refused("holders(" + r + ")", m, bounds, () -> m.holders(r));
            LockManager n = Setup.begun(1);
            CHECK.refused("queueLength(" + r + ")", n, bounds, () -> n.queueLength(r));
            LockManager o = Setup.begun(1);
            CHECK.refused("queued(" + r + ", 0)", o, bounds, () -> o.queued(r, 0));
        }
        for (int i : new int[] {-1, Integer.MIN_VALUE}) {
            LockManager m = Setup.begun(1);
            CHECK.refused("queued(0, " + i + ")", m, bounds, () -> m.queued(0, i));
        }
    }
}
