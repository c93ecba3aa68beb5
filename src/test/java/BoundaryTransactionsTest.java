import java.util.function.Supplier;

/** The boundary cases that the document names in the promises 1 to 7. */
public final class BoundaryTransactionsTest {
    private static final int SHARED = LockManager.SHARED;
    private static final int EXCLUSIVE = LockManager.EXCLUSIVE;
    private static final int GRANTED = LockManager.GRANTED;
    private static final int QUEUED = LockManager.QUEUED;
    private static final int ABORTED = LockManager.ABORTED;
    private static final int IDLE = LockManager.IDLE;
    private static final int ACTIVE = LockManager.ACTIVE;
    private static final int NONE = LockManager.NONE;

    private static final String TRANSACTIONS = "`transaction`: 0 to 7";
    private static final String NO_TRANSACTION =
            "Throws `IndexOutOfBoundsException` if there is no such transaction";
    private static final String NOT_ACTIVE = "Throws `IllegalStateException` if the transaction is not ACTIVE";

    public static void main(String[] args) {
        Sentences.testAllOf(BoundaryTransactionsTest.class);
    }

    private static LockManager crowdedAndSaved() {
        LockManager m = Scenes.crowded();
        for (int i = 0; i < 9; i++) {
            m.work(1 + i % 6, 1 + i);
        }
        return m;
    }

    // ---- Promise 1

    @Sentence(of = "Promise 1", says = "Creates a lock manager with idle transactions.")
    static void promise1ANewObjectIsEmpty(Check check) {
        StringBuilder due = new StringBuilder();
        for (int t = 0; t < 8; t++) {
            due.append('T').append(t).append(" 0 -1 -1 -1 -1 0 0 locks 0000000000; ");
        }
        for (int r = 0; r < 10; r++) {
            due.append('R').append(r).append(" 0 queue; ");
        }
        due.append("rings 0 lost 0 held 0; saved 0 text 0 error 0");
        check.due("a new object", due.toString(), Snapshot.of(new LockManager()));
        Scenes.busy();
        check.due("a new object beside another", due.toString(), Snapshot.of(new LockManager()));
    }

    // ---- Promise 2: begin

    @Sentence(of = "Promise 2", says = "Begins a transaction: it becomes ACTIVE with the work 0, the abort count 0 "
            + "and a new birth number.")
    static void promise2ANewLifeHasNothingOfTheOldOne(Check check) {
        LockManager m = Setup.ran("b0;b1;w0,1000;x00;x11;x10;x01;w1,7");
        check.due("aborts of the old life", 1, m.abortsOf(1));
        m.commit(1);
        check.due("begin", 2, m.begin(1));
        check.due("state", ACTIVE, m.state(1));
        check.due("work", 0, m.workOf(1));
        check.due("aborts", 0, m.abortsOf(1));
        check.due("birth", 2, m.birthOf(1));
        m.rollBack(0);
        check.due("begin after rollBack", 3, m.begin(0));
        check.due("work after rollBack", 0, m.workOf(0));
        check.due("locks after rollBack", 0, m.locksHeld());
    }

    @Sentence(of = "Promise 2", says = "Undoable.")
    static void promise2IsUndoable(Check check) {
        Undoable.in(check, Scenes::fresh, "begin", m -> m.begin(0));
        Undoable.in(check, Scenes::busy, "begin", m -> m.begin(7));
    }

    @Sentence(of = "Promise 2", says = TRANSACTIONS)
    static void promise2TheFirstAndTheLastTransaction(Check check) {
        for (int t : new int[] {0, 7}) {
            LockManager m = new LockManager();
            check.due("begin(" + t + ")", 0, m.begin(t));
            for (int other = 0; other < 8; other++) {
                check.due("state(" + other + ")", other == t ? ACTIVE : IDLE, m.state(other));
            }
        }
    }

    @Sentence(of = "Promise 2", says = "Returns its birth number.")
    static void promise2TheFirstAndTheEighthBirthNumber(Check check) {
        LockManager m = new LockManager();
        for (int i = 0; i < 8; i++) {
            check.due("begin(" + (7 - i) + ")", i, m.begin(7 - i));
            check.due("birthOf(" + (7 - i) + ")", i, m.birthOf(7 - i));
        }
    }

    @Sentence(of = "Promise 2", says = NO_TRANSACTION)
    static void promise2NoSuchTransaction(Check check) {
        for (int none : Refused.NO_TRANSACTIONS) {
            Refused.everywhere(check, Refused.BOUNDS, "begin(" + none + ")", m -> m.begin(none));
        }
    }

    @Sentence(of = "Promise 2", says = "Throws `IllegalStateException` if the transaction is not IDLE")
    static void promise2NotIdle(Check check) {
        Refused.in(check, Scenes::busy, Refused.STATE, "begin of an active one", m -> m.begin(0));
        Refused.in(check, Scenes::busy, Refused.STATE, "begin of a waiting one", m -> m.begin(1));
        for (int t = 0; t < 8; t++) {
            int transaction = t;
            Refused.in(check, Scenes::crowded, Refused.STATE, "begin(" + t + ")", m -> m.begin(transaction));
        }
    }

    // ---- Promise 3: request

    @Sentence(of = "Promise 3", says = "Undoable.")
    static void promise3IsUndoable(Check check) {
        Supplier<LockManager> begun = () -> Setup.begun(1);
        Undoable.in(check, begun, "a granted request", m -> m.request(0, 0, SHARED));
        Undoable.in(check, Scenes::busy, "a granted request", m -> m.request(0, 9, SHARED));
        Undoable.in(check, Scenes::busy, "a request of what it holds", m -> m.request(0, 0, SHARED));
        Undoable.in(check, Scenes::busy, "a queued request", m -> m.request(2, 0, EXCLUSIVE));
        Supplier<LockManager> ring = () -> Setup.ran("b0;b1;x00;x11;x01");
        Undoable.in(check, ring, "a request that is aborted", m -> m.request(1, 0, EXCLUSIVE));
    }

    @Sentence(of = "Promise 3", says = TRANSACTIONS)
    static void promise3TheFirstAndTheLastTransaction(Check check) {
        LockManager m = Setup.begun(8);
        check.due("request of 0", GRANTED, m.request(0, 3, SHARED));
        check.due("request of 7", GRANTED, m.request(7, 3, SHARED));
        check.due("the holders", 0b10000001, m.holders(3));
    }

    @Sentence(of = "Promise 3", says = "`resource`: 0 to 9")
    static void promise3TheFirstAndTheLastResource(Check check) {
        LockManager m = Setup.begun(8);
        check.due("request for 0", GRANTED, m.request(3, 0, EXCLUSIVE));
        check.due("request for 9", GRANTED, m.request(3, 9, EXCLUSIVE));
        for (int r = 0; r < 10; r++) {
            check.due("holders(" + r + ")", r == 0 || r == 9 ? 0b1000 : 0, m.holders(r));
        }
    }

    @Sentence(of = "Promise 3", says = "`mode`: SHARED or EXCLUSIVE")
    static void promise3BothModes(Check check) {
        LockManager m = Setup.begun(1);
        check.due("request with the mode 1", GRANTED, m.request(0, 0, 1));
        check.due("held", SHARED, m.held(0, 0));
        check.due("request with the mode 2", GRANTED, m.request(0, 1, 2));
        check.due("held", EXCLUSIVE, m.held(0, 1));
    }

    private static final String RESULTS = "Returns GRANTED if the transaction holds a lock on the resource in the "
            + "requested mode, or in the mode EXCLUSIVE, after the call; QUEUED if the transaction is WAITING after "
            + "the call; ABORTED if the transaction was a victim during the call.";

    @Sentence(of = "Promise 3", says = RESULTS)
    static void promise3GrantedAtOnceOrAfterItsRingWasBroken(Check check) {
        LockManager m = Setup.ran("b0;b1;w0,5;x11;x00");
        check.due("at once", 1, m.request(0, 2, SHARED));
        check.due("held shared", 1, m.request(0, 2, SHARED));
        check.due("held exclusively", 1, m.request(0, 0, SHARED));
        m.request(1, 0, SHARED);
        check.due("after another one was the victim", 1, m.request(0, 1, EXCLUSIVE));
        check.due("state", ACTIVE, m.state(0));
    }

    @Sentence(of = "Promise 3", says = RESULTS)
    static void promise3QueuedAlsoIfItHoldsASharedLock(Check check) {
        LockManager m = Setup.ran("b0;b1;b2;b3;s00;s10;s20");
        check.due("with no lock there", 2, m.request(3, 0, EXCLUSIVE));
        check.due("with a shared lock there", 2, m.request(0, 0, EXCLUSIVE));
        LockManager broken = Setup.ran("b0;b1;b2;w1,9;s00;s20;x11;s01");
        check.due("after another one was the victim", 2, broken.request(1, 0, EXCLUSIVE));
        check.due("state", LockManager.WAITING, broken.state(1));
    }

    @Sentence(of = "Promise 3", says = RESULTS)
    static void promise3AbortedAsTheFirstOrALaterVictim(Check check) {
        LockManager first = Setup.ran("b0;b1;x00;x11;x01");
        check.due("the only victim", 3, first.request(1, 0, SHARED));
        check.due("state", ACTIVE, first.state(1));
        LockManager upgrade = Setup.ran("b0;b1;s00;s10;x00");
        check.due("a victim that held a shared lock there", 3, upgrade.request(1, 0, EXCLUSIVE));
        check.due("held", 0, upgrade.held(1, 0));
        LockManager second = Setup.ran("b5;b6;b7;s60;s70;x51;w7,99;w5,9;x61;s71");
        check.due("the second victim", 3, second.request(5, 0, EXCLUSIVE));
        check.due("victims", 2, second.brokenRings());
    }

    @Sentence(of = "Promise 3", says = "Throws `IndexOutOfBoundsException` if there is no such transaction or resource")
    static void promise3NoSuchTransactionOrResource(Check check) {
        for (int none : Refused.NO_TRANSACTIONS) {
            Refused.everywhere(check, Refused.BOUNDS, "request of " + none, m -> m.request(none, 0, SHARED));
        }
        for (int none : Refused.NO_RESOURCES) {
            Refused.everywhere(check, Refused.BOUNDS, "request for " + none, m -> m.request(0, none, SHARED));
        }
    }

    @Sentence(of = "Promise 3", says = "Throws `IllegalArgumentException` if the mode is neither SHARED nor EXCLUSIVE")
    static void promise3NoSuchMode(Check check) {
        for (int none : Refused.NO_MODES) {
            Refused.everywhere(check, Refused.ARGUMENT, "request with the mode " + none, m -> m.request(0, 9, none));
        }
    }

    @Sentence(of = "Promise 3", says = NOT_ACTIVE)
    static void promise3NotActive(Check check) {
        Refused.in(check, Scenes::fresh, Refused.STATE, "request of an idle one", m -> m.request(0, 0, SHARED));
        Refused.in(check, Scenes::busy, Refused.STATE, "request of an idle one", m -> m.request(7, 9, EXCLUSIVE));
        Refused.in(check, Scenes::busy, Refused.STATE, "request of a waiting one", m -> m.request(1, 9, SHARED));
        Refused.in(check, Scenes::crowded, Refused.STATE, "request of a waiting one", m -> m.request(7, 9, EXCLUSIVE));
    }

    // ---- Promise 4: work

    @Sentence(of = "Promise 4", says = "Undoable.")
    static void promise4IsUndoable(Check check) {
        Undoable.in(check, () -> Setup.begun(1), "work", m -> m.work(0, 1));
        Undoable.in(check, Scenes::busy, "work", m -> m.work(2, 1000));
    }

    @Sentence(of = "Promise 4", says = TRANSACTIONS)
    static void promise4TheFirstAndTheLastTransaction(Check check) {
        LockManager m = Setup.begun(8);
        check.due("work(0, 3)", 3, m.work(0, 3));
        check.due("work(7, 4)", 4, m.work(7, 4));
        for (int t = 0; t < 8; t++) {
            check.due("workOf(" + t + ")", t == 0 ? 3 : t == 7 ? 4 : 0, m.workOf(t));
        }
    }

    @Sentence(of = "Promise 4", says = "`amount`: 1 to 1000")
    static void promise4TheLeastAndTheGreatestAmount(Check check) {
        LockManager m = Setup.begun(1);
        check.due("work(0, 1)", 1, m.work(0, 1));
        check.due("work(0, 1000)", 1001, m.work(0, 1000));
    }

    @Sentence(of = "Promise 4", says = "Returns its work after the call.")
    static void promise4FromNoWorkAndOntoMuch(Check check) {
        LockManager m = Setup.ran("b0;b1");
        check.due("from no work", 5, m.work(1, 5));
        check.due("onto that", 11, m.work(1, 6));
        m.request(1, 0, SHARED);
        check.due("onto a lock, too", 19, m.work(1, 7));
        check.due("workOf", 19, m.workOf(1));
    }

    @Sentence(of = "Promise 4", says = NO_TRANSACTION)
    static void promise4NoSuchTransaction(Check check) {
        for (int none : Refused.NO_TRANSACTIONS) {
            Refused.everywhere(check, Refused.BOUNDS, "work of " + none, m -> m.work(none, 5));
        }
    }

    @Sentence(of = "Promise 4", says = "Throws `IllegalArgumentException` if the amount is out of range")
    static void promise4NoSuchAmount(Check check) {
        for (int none : Refused.NO_AMOUNTS) {
            Refused.everywhere(check, Refused.ARGUMENT, "work(0, " + none + ")", m -> m.work(0, none));
        }
    }

    @Sentence(of = "Promise 4", says = NOT_ACTIVE)
    static void promise4NotActive(Check check) {
        Refused.in(check, Scenes::fresh, Refused.STATE, "work of an idle one", m -> m.work(0, 1));
        Refused.in(check, Scenes::busy, Refused.STATE, "work of an idle one", m -> m.work(7, 1));
        Refused.in(check, Scenes::busy, Refused.STATE, "work of a waiting one", m -> m.work(1, 1));
        Refused.in(check, Scenes::crowded, Refused.STATE, "work of a waiting one", m -> m.work(7, 1000));
    }

    // ---- Promise 5: withdraw

    @Sentence(of = "Promise 5", says = "Withdraws the request of a transaction: the request is removed from its queue, "
            + "the transaction becomes ACTIVE, and then the queues are served.")
    static void promise5TheOnlyTheFirstAMiddleAndTheLastRequest(Check check) {
        LockManager only = Setup.ran("b0;b1;x00;s11;w1,3;x10");
        check.due("the only one", 0, only.withdraw(1));
        check.due("an empty queue", "0 -1", only.queueLength(0) + " " + only.queued(0, 0));
        check.due("it keeps lock and work", "1 4", only.held(1, 1) + " " + only.workOf(1));
        int[][] left = {{22, 32, NONE}, {12, 32, NONE}, {12, 22, NONE}};
        for (int t = 1; t <= 3; t++) {
            LockManager m = Setup.ran("b0;b1;b2;b3;x00;x10;x20;x30");
            check.due("withdraw(" + t + ")", 0, m.withdraw(t));
            check.due("state(" + t + ")", ACTIVE, m.state(t));
            check.due("awaited(" + t + ")", NONE, m.awaited(t));
            for (int i = 0; i < 3; i++) {
                check.due("queued(0, " + i + ") without " + t, left[t - 1][i], m.queued(0, i));
            }
        }
    }

    @Sentence(of = "Promise 5", says = "Undoable.")
    static void promise5IsUndoable(Check check) {
        Undoable.in(check, Scenes::busy, "withdraw", m -> m.withdraw(1));
        Undoable.in(check, Scenes::crowded, "withdraw", m -> m.withdraw(7));
        Undoable.in(check, () -> Setup.ran("b0;b1;b2;s00;x10;s20"), "withdraw", m -> m.withdraw(1));
    }

    @Sentence(of = "Promise 5", says = TRANSACTIONS)
    static void promise5TheFirstAndTheLastTransaction(Check check) {
        for (int t : new int[] {0, 7}) {
            LockManager m = Setup.ran("b0;b3;b7;x30;x00;x70");
            check.due("withdraw(" + t + ")", 0, m.withdraw(t));
            check.due("the other one waits on", LockManager.WAITING, m.state(7 - t));
            check.due("it does not", ACTIVE, m.state(t));
        }
    }

    @Sentence(of = "Promise 5", says = "Returns the number of requests that are granted by that.")
    static void promise5FromNoGrantToSix(Check check) {
        check.due("none", 0, Setup.ran("b0;b1;x00;x10").withdraw(1));
        for (int behind = 0; behind <= 6; behind++) {
            LockManager m = Setup.ran("b0;b1;b2;b3;b4;b5;b6;b7;s00;x10");
            for (int t = 2; t < 2 + behind; t++) {
                m.request(t, 0, SHARED);
            }
            check.due("withdraw with " + behind + " behind it", behind, m.withdraw(1));
        }
    }

    @Sentence(of = "Promise 5", says = NO_TRANSACTION)
    static void promise5NoSuchTransaction(Check check) {
        for (int none : Refused.NO_TRANSACTIONS) {
            Refused.everywhere(check, Refused.BOUNDS, "withdraw(" + none + ")", m -> m.withdraw(none));
        }
    }

    @Sentence(of = "Promise 5", says = "Throws `IllegalStateException` if the transaction is not WAITING")
    static void promise5NotWaiting(Check check) {
        Refused.in(check, Scenes::fresh, Refused.STATE, "withdraw of an idle one", m -> m.withdraw(0));
        Refused.in(check, Scenes::busy, Refused.STATE, "withdraw of an idle one", m -> m.withdraw(7));
        Refused.in(check, Scenes::busy, Refused.STATE, "withdraw of an active one", m -> m.withdraw(0));
        Refused.in(check, Scenes::crowded, Refused.STATE, "withdraw of an active one", m -> m.withdraw(6));
        Supplier<LockManager> once = () -> Setup.ran("b0;b1;x00;x10;k1");
        Refused.in(check, once, Refused.STATE, "a second withdrawal", m -> m.withdraw(1));
        Supplier<LockManager> granted = () -> Setup.ran("b0;b1;x00;x10;c0");
        Refused.in(check, granted, Refused.STATE, "withdraw after a grant", m -> m.withdraw(1));
    }

    // ---- Promise 6: commit

    @Sentence(of = "Promise 6", says = "Commits a transaction: all its locks are released, it becomes IDLE, and then "
            + "the queues are served.")
    static void promise6WithNoLockAndWithAllLocks(Check check) {
        LockManager none = Setup.ran("b0;b1;x10");
        check.due("with no lock", 0, none.commit(0));
        check.due("state", IDLE, none.state(0));
        check.due("the other's lock stays", 1, none.locksHeld());
        LockManager all = Setup.ran("b0;b1;x00;x01;x02;x03;x04;s05;s06;s07;s08;s09;s19;x10");
        check.due("with all locks", 1, all.commit(0));
        for (int r = 0; r < 10; r++) {
            check.due("held(0, " + r + ")", 0, all.held(0, r));
        }
        check.due("the other's lock stays, and one is new", 2, all.locksHeld());
        check.due("state", IDLE, all.state(0));
    }

    @Sentence(of = "Promise 6", says = "Undoable.")
    static void promise6IsUndoable(Check check) {
        Undoable.in(check, () -> Setup.begun(1), "commit", m -> m.commit(0));
        Undoable.in(check, Scenes::busy, "commit", m -> m.commit(0));
        Undoable.in(check, BoundaryTransactionsTest::crowdedAndSaved, "commit", m -> m.commit(0));
    }

    @Sentence(of = "Promise 6", says = TRANSACTIONS)
    static void promise6TheFirstAndTheLastTransaction(Check check) {
        for (int t : new int[] {0, 7}) {
            LockManager m = Setup.begun(8);
            check.due("commit(" + t + ")", 0, m.commit(t));
            for (int other = 0; other < 8; other++) {
                check.due("state(" + other + ")", other == t ? IDLE : ACTIVE, m.state(other));
            }
        }
    }

    private static final String SEVEN_SHARED = "b0;b1;b2;b3;b4;b5;b6;b7;x00;s10;s20;s30;s40;s50;s60;s70";
    private static final String SEVEN_QUEUES = "b0;b1;b2;b3;b4;b5;b6;b7;x00;x01;x02;x03;x04;x05;x09";

    private static LockManager sevenQueues() {
        LockManager m = Setup.ran(SEVEN_QUEUES);
        Setup.run(m, "x10;s21;x32;s43;x54;s65;x79");
        return m;
    }

    @Sentence(of = "Promise 6", says = "Returns the number of requests that are granted by that.")
    static void promise6FromNoGrantToSeven(Check check) {
        check.due("no request", 0, Setup.ran("b0;x00").commit(0));
        check.due("a request that can't be granted", 0, Setup.ran("b0;b1;b2;s00;s10;x20").commit(0));
        check.due("one request of two", 1, Setup.ran("b0;b1;b2;x00;x10;s20").commit(0));
        check.due("seven of one queue", 7, Setup.ran(SEVEN_SHARED).commit(0));
        check.due("seven of seven queues", 7, sevenQueues().commit(0));
    }

    @Sentence(of = "Promise 6", says = NO_TRANSACTION)
    static void promise6NoSuchTransaction(Check check) {
        for (int none : Refused.NO_TRANSACTIONS) {
            Refused.everywhere(check, Refused.BOUNDS, "commit(" + none + ")", m -> m.commit(none));
        }
    }

    @Sentence(of = "Promise 6", says = NOT_ACTIVE)
    static void promise6NotActive(Check check) {
        Refused.in(check, Scenes::fresh, Refused.STATE, "commit of an idle one", m -> m.commit(0));
        Refused.in(check, Scenes::busy, Refused.STATE, "commit of an idle one", m -> m.commit(7));
        Refused.in(check, Scenes::busy, Refused.STATE, "commit of a waiting one", m -> m.commit(1));
        Refused.in(check, Scenes::crowded, Refused.STATE, "commit of a waiting one", m -> m.commit(7));
        Supplier<LockManager> once = () -> Setup.ran("b0;c0");
        Refused.in(check, once, Refused.STATE, "a second commit", m -> m.commit(0));
    }

    // ---- Promise 7: rollBack

    @Sentence(of = "Promise 7", says = "Rolls a transaction back: its request, if it has one, is removed from its "
            + "queue, all its locks are released, it becomes IDLE, and then the queues are served.")
    static void promise7WithAndWithoutARequest(Check check) {
        LockManager nothing = Setup.begun(1);
        check.due("without anything", 0, nothing.rollBack(0));
        check.due("state", IDLE, nothing.state(0));
        LockManager locks = Setup.ran("b0;b1;x00;x09;x10");
        check.due("without a request", 1, locks.rollBack(0));
        check.due("its locks are gone", "0 0", locks.held(0, 0) + " " + locks.held(0, 9));
        LockManager only = Setup.ran("b0;b1;x00;x10");
        check.due("with the only request", 0, only.rollBack(1));
        check.due("an empty queue", "0 -1", only.queueLength(0) + " " + only.queued(0, 0));
        check.due("awaited", NONE, only.awaited(1));
        int[][] left = {{22, 32, NONE}, {12, 32, NONE}, {12, 22, NONE}};
        for (int t = 1; t <= 3; t++) {
            LockManager m = Setup.ran("b0;b1;b2;b3;x00;x10;x20;x30");
            check.due("rollBack(" + t + ")", 0, m.rollBack(t));
            check.due("state(" + t + ")", IDLE, m.state(t));
            for (int i = 0; i < 3; i++) {
                check.due("queued(0, " + i + ") without " + t, left[t - 1][i], m.queued(0, i));
            }
        }
    }

    @Sentence(of = "Promise 7", says = "(This is not counted in the statistics.)")
    static void promise7IsNotCounted(Check check) {
        LockManager m = Setup.ran("b0;b1;w0,5;w1,6;x00;x10");
        m.rollBack(1);
        m.rollBack(0);
        check.due("brokenRings", 0, m.brokenRings());
        check.due("lostWork", 0, m.lostWork());
    }

    @Sentence(of = "Promise 7", says = "Undoable.")
    static void promise7IsUndoable(Check check) {
        Undoable.in(check, () -> Setup.begun(1), "rollBack", m -> m.rollBack(0));
        Undoable.in(check, Scenes::busy, "rollBack of a waiting one", m -> m.rollBack(1));
        Undoable.in(check, BoundaryTransactionsTest::crowdedAndSaved, "rollBack", m -> m.rollBack(0));
    }

    @Sentence(of = "Promise 7", says = TRANSACTIONS)
    static void promise7TheFirstAndTheLastTransaction(Check check) {
        for (int t : new int[] {0, 7}) {
            LockManager m = Setup.begun(8);
            check.due("rollBack(" + t + ")", 0, m.rollBack(t));
            for (int other = 0; other < 8; other++) {
                check.due("state(" + other + ")", other == t ? IDLE : ACTIVE, m.state(other));
            }
        }
    }

    @Sentence(of = "Promise 7", says = "Returns the number of requests that are granted by that.")
    static void promise7FromNoGrantToSeven(Check check) {
        check.due("no request", 0, Setup.ran("b0;x00").rollBack(0));
        check.due("its own request alone", 0, Setup.ran("b0;b1;x00;x10").rollBack(1));
        check.due("the one behind its request", 1, Setup.ran("b0;b1;b2;s00;x10;s20").rollBack(1));
        check.due("the one behind and the one at its lock", 2,
                Setup.ran("b0;b1;b2;b3;s00;x11;x10;s20;s31").rollBack(1));
        check.due("seven of one queue", 7, Setup.ran(SEVEN_SHARED).rollBack(0));
        check.due("seven of seven queues", 7, sevenQueues().rollBack(0));
    }

    @Sentence(of = "Promise 7", says = NO_TRANSACTION)
    static void promise7NoSuchTransaction(Check check) {
        for (int none : Refused.NO_TRANSACTIONS) {
            Refused.everywhere(check, Refused.BOUNDS, "rollBack(" + none + ")", m -> m.rollBack(none));
        }
    }

    @Sentence(of = "Promise 7", says = "Throws `IllegalStateException` if the transaction is IDLE")
    static void promise7Idle(Check check) {
        for (int t = 0; t < 8; t++) {
            int transaction = t;
            Refused.in(check, Scenes::fresh, Refused.STATE, "rollBack(" + t + ")", m -> m.rollBack(transaction));
        }
        Refused.in(check, Scenes::busy, Refused.STATE, "rollBack of an idle one", m -> m.rollBack(7));
        Supplier<LockManager> once = () -> Setup.ran("b0;a0");
        Refused.in(check, once, Refused.STATE, "a second rollBack", m -> m.rollBack(0));
        LockManager m = Scenes.busy();
        check.due("of an active one", 0, m.rollBack(2));
        check.due("of a waiting one", 0, m.rollBack(1));
    }
}
