import java.util.function.Supplier;

/** The boundary cases that the document names in the promises 13 to 28. */
public final class BoundaryQueriesTest {
    private static final int SHARED = LockManager.SHARED;
    private static final int EXCLUSIVE = LockManager.EXCLUSIVE;
    private static final int GRANTED = LockManager.GRANTED;
    private static final int QUEUED = LockManager.QUEUED;
    private static final int NONE = LockManager.NONE;

    private static final String TRANSACTIONS = "`transaction`: 0 to 7";
    private static final String RESOURCES = "`resource`: 0 to 9";
    private static final String MODES = "`mode`: SHARED or EXCLUSIVE";
    private static final String NO_TRANSACTION =
            "Throws `IndexOutOfBoundsException` if there is no such transaction";
    private static final String NO_RESOURCE = "Throws `IndexOutOfBoundsException` if there is no such resource";
    private static final String NEITHER =
            "Throws `IndexOutOfBoundsException` if there is no such transaction or resource";
    private static final String NO_MODE =
            "Throws `IllegalArgumentException` if the mode is neither SHARED nor EXCLUSIVE";

    public static void main(String[] args) {
        Sentences.testAllOf(BoundaryQueriesTest.class);
    }

    private interface Query {
        int of(LockManager m, int number);
    }

    /** Asks about each number from 0 on. */
    private static void answers(Check check, String what, LockManager m, Query query, int... due) {
        for (int number = 0; number < due.length; number++) {
            check.due(what + "(" + number + ")", due[number], query.of(m, number));
        }
    }

    private static void noTransaction(Check check, String what, Query query) {
        for (int none : Refused.NO_TRANSACTIONS) {
            Refused.everywhere(check, Refused.BOUNDS, what + "(" + none + ")", m -> query.of(m, none));
        }
    }

    private static void noResource(Check check, String what, Query query) {
        for (int none : Refused.NO_RESOURCES) {
            Refused.everywhere(check, Refused.BOUNDS, what + "(" + none + ")", m -> query.of(m, none));
        }
    }

    private static void noMode(Check check, String what, Query query) {
        for (int none : Refused.NO_MODES) {
            Refused.everywhere(check, Refused.ARGUMENT, what + " with the mode " + none, m -> query.of(m, none));
        }
    }

    /** 0 waits for 7, 7 was aborted, 3 is active, the others are idle. */
    private static LockManager ends() {
        LockManager m = Setup.ran("b3;b7;b0;w0,9;x00;x77;x07;x70;w7,4;x79;x09");
        return m;
    }

    // ---- Ahead of the promises 13 to 20

    @Sentence(of = "Section 8", says = "queries change nothing.")
    static void section8QueriesChangeNothing(Check check) {
        for (Supplier<LockManager> scene : Scenes.ALL) {
            Traces.none(check, "all queries", scene, Snapshot::of);
            Traces.none(check, "all questions", scene, BoundaryQueriesTest::askAll);
        }
        Supplier<LockManager> ring = () -> Setup.ran("b5;b0;b7;s00;s70;x51;w5,9;x01;s71");
        Traces.none(check, "questions about rings", ring, BoundaryQueriesTest::askAll);
    }

    /** Takes 96 calls. */
    private static void askAll(LockManager m) {
        for (int t = 0; t < 8; t++) {
            for (int r = 0; r < 10; r += 3) {
                m.ifRequested(t, r, EXCLUSIVE);
                m.victimsOf(t, r, EXCLUSIVE);
                m.victimsOf(t, r, SHARED);
            }
        }
    }

    // ---- Promise 13: state

    @Sentence(of = "Promise 13", says = TRANSACTIONS)
    static void promise13TheFirstAndTheLastTransaction(Check check) {
        answers(check, "state", Setup.ran("b0"), LockManager::state, 1, 0, 0, 0, 0, 0, 0, 0);
        answers(check, "state", Setup.ran("b7"), LockManager::state, 0, 0, 0, 0, 0, 0, 0, 1);
    }

    @Sentence(of = "Promise 13", says = "Returns IDLE, ACTIVE or WAITING.")
    static void promise13EachState(Check check) {
        answers(check, "state", new LockManager(), LockManager::state, 0, 0, 0, 0, 0, 0, 0, 0);
        answers(check, "state", ends(), LockManager::state, 2, 0, 0, 1, 0, 0, 0, 1);
        answers(check, "state", Scenes.crowded(), LockManager::state, 1, 1, 1, 1, 1, 1, 1, 2);
    }

    @Sentence(of = "Promise 13", says = NO_TRANSACTION)
    static void promise13NoSuchTransaction(Check check) {
        noTransaction(check, "state", LockManager::state);
    }

    // ---- Promise 14: workOf

    @Sentence(of = "Promise 14", says = TRANSACTIONS)
    static void promise14TheFirstAndTheLastTransaction(Check check) {
        LockManager m = Setup.ran("b0;b1;b2;b3;b4;b5;b6;b7;w0,3;w7,4");
        answers(check, "workOf", m, LockManager::workOf, 3, 0, 0, 0, 0, 0, 0, 4);
    }

    @Sentence(of = "Promise 14", says = "Returns its work; NONE if it is IDLE.")
    static void promise14IdleOrWithoutWork(Check check) {
        answers(check, "workOf", new LockManager(), LockManager::workOf, -1, -1, -1, -1, -1, -1, -1, -1);
        answers(check, "workOf", ends(), LockManager::workOf, 11, -1, -1, 0, -1, -1, -1, 5);
        LockManager ended = ends();
        ended.commit(7);
        ended.rollBack(0);
        check.due("workOf after commit", NONE, ended.workOf(7));
        check.due("workOf after rollBack", NONE, ended.workOf(0));
    }

    @Sentence(of = "Promise 14", says = NO_TRANSACTION)
    static void promise14NoSuchTransaction(Check check) {
        noTransaction(check, "workOf", LockManager::workOf);
    }

    // ---- Promise 15: abortsOf

    @Sentence(of = "Promise 15", says = TRANSACTIONS)
    static void promise15TheFirstAndTheLastTransaction(Check check) {
        LockManager last = Setup.ran("b0;b7;x00;x77;x07;x70");
        answers(check, "abortsOf", last, LockManager::abortsOf, 0, -1, -1, -1, -1, -1, -1, 1);
        LockManager first = Setup.ran("b7;b0;x00;x77;x07;x70");
        answers(check, "abortsOf", first, LockManager::abortsOf, 1, -1, -1, -1, -1, -1, -1, 0);
    }

    @Sentence(of = "Promise 15", says = "Returns its abort count; NONE if it is IDLE.")
    static void promise15IdleOrNeverAborted(Check check) {
        answers(check, "abortsOf", new LockManager(), LockManager::abortsOf, -1, -1, -1, -1, -1, -1, -1, -1);
        answers(check, "abortsOf", ends(), LockManager::abortsOf, 0, -1, -1, 0, -1, -1, -1, 1);
        LockManager ended = ends();
        ended.commit(7);
        ended.rollBack(0);
        check.due("abortsOf after commit", NONE, ended.abortsOf(7));
        check.due("abortsOf after rollBack", NONE, ended.abortsOf(0));
    }

    @Sentence(of = "Promise 15", says = NO_TRANSACTION)
    static void promise15NoSuchTransaction(Check check) {
        noTransaction(check, "abortsOf", LockManager::abortsOf);
    }

    // ---- Promise 16: birthOf

    @Sentence(of = "Promise 16", says = TRANSACTIONS)
    static void promise16TheFirstAndTheLastTransaction(Check check) {
        LockManager m = Setup.ran("b3;b7;b0");
        answers(check, "birthOf", m, LockManager::birthOf, 2, -1, -1, 0, -1, -1, -1, 1);
    }

    @Sentence(of = "Promise 16", says = "Returns its birth number; NONE if it is IDLE.")
    static void promise16IdleOrTheFirstOne(Check check) {
        answers(check, "birthOf", new LockManager(), LockManager::birthOf, -1, -1, -1, -1, -1, -1, -1, -1);
        answers(check, "birthOf", ends(), LockManager::birthOf, 2, -1, -1, 0, -1, -1, -1, 1);
        LockManager ended = ends();
        ended.commit(3);
        ended.rollBack(0);
        check.due("birthOf after commit", NONE, ended.birthOf(3));
        check.due("birthOf after rollBack", NONE, ended.birthOf(0));
    }

    @Sentence(of = "Promise 16", says = NO_TRANSACTION)
    static void promise16NoSuchTransaction(Check check) {
        noTransaction(check, "birthOf", LockManager::birthOf);
    }

    // ---- Promise 17: held

    private static String allHeld(LockManager m) {
        StringBuilder locks = new StringBuilder();
        for (int t = 0; t < 8; t++) {
            for (int r = 0; r < 10; r++) {
                locks.append(m.held(t, r));
            }
            locks.append(' ');
        }
        return locks.toString();
    }

    private static final String NOTHING = "0000000000 ";

    @Sentence(of = "Promise 17", says = TRANSACTIONS)
    static void promise17TheFirstAndTheLastTransaction(Check check) {
        check.due("held by 0", "0001000000 " + NOTHING.repeat(7), allHeld(Setup.ran("b0;s03")));
        check.due("held by 7", NOTHING.repeat(7) + "0002000000 ", allHeld(Setup.ran("b7;x73")));
    }

    @Sentence(of = "Promise 17", says = RESOURCES)
    static void promise17TheFirstAndTheLastResource(Check check) {
        check.due("held of 0", NOTHING.repeat(3) + "1000000000 " + NOTHING.repeat(4), allHeld(Setup.ran("b3;s30")));
        check.due("held of 9", NOTHING.repeat(3) + "0000000002 " + NOTHING.repeat(4), allHeld(Setup.ran("b3;x39")));
    }

    @Sentence(of = "Promise 17", says = "Returns SHARED or EXCLUSIVE; 0 if it holds none.")
    static void promise17NoLockAndEachMode(Check check) {
        check.due("nothing is held", NOTHING.repeat(8), allHeld(new LockManager()));
        LockManager m = Setup.ran("b0;b1;x00;s01;s10");
        check.due("exclusive", EXCLUSIVE, m.held(0, 0));
        check.due("shared", SHARED, m.held(0, 1));
        check.due("none", 0, m.held(0, 2));
        check.due("none, as it waits", 0, m.held(1, 0));
        check.due("none, as it is idle", 0, m.held(2, 0));
        m.rollBack(0);
        check.due("none any more", 0, m.held(0, 0));
        check.due("shared, from the queue", SHARED, m.held(1, 0));
    }

    @Sentence(of = "Promise 17", says = NEITHER)
    static void promise17NoSuchTransactionOrResource(Check check) {
        noTransaction(check, "held by none", (m, none) -> m.held(none, 0));
        noTransaction(check, "held by none, of 9", (m, none) -> m.held(none, 9));
        noResource(check, "held of none", (m, none) -> m.held(0, none));
        noResource(check, "held by 7, of none", (m, none) -> m.held(7, none));
        Refused.everywhere(check, Refused.BOUNDS, "held(8, 10)", m -> m.held(8, 10));
        // These two would lead to places of others, if both numbers were one.
        Refused.everywhere(check, Refused.BOUNDS, "held(1, -1)", m -> m.held(1, -1));
        Refused.everywhere(check, Refused.BOUNDS, "held(-1, 10)", m -> m.held(-1, 10));
    }

    // ---- Promise 18: awaited

    @Sentence(of = "Promise 18", says = TRANSACTIONS)
    static void promise18TheFirstAndTheLastTransaction(Check check) {
        LockManager m = Setup.ran("b0;b3;b7;x34;x35;x04;x75");
        answers(check, "awaited", m, LockManager::awaited, 4, -1, -1, -1, -1, -1, -1, 5);
    }

    @Sentence(of = "Promise 18", says = "Returns the resource; NONE if the transaction is not WAITING.")
    static void promise18NotWaitingOrTheFirstAndTheLastResource(Check check) {
        answers(check, "awaited", new LockManager(), LockManager::awaited, -1, -1, -1, -1, -1, -1, -1, -1);
        LockManager m = Setup.ran("b0;b1;b2;x00;x09;x10;x29");
        answers(check, "awaited", m, LockManager::awaited, -1, 0, 9, -1, -1, -1, -1, -1);
        m.withdraw(1);
        check.due("awaited after withdraw", NONE, m.awaited(1));
        m.commit(0);
        check.due("awaited after a grant", NONE, m.awaited(2));
        LockManager ended = Setup.ran("b0;b1;x00;x10;a1");
        check.due("awaited after rollBack", NONE, ended.awaited(1));
    }

    @Sentence(of = "Promise 18", says = NO_TRANSACTION)
    static void promise18NoSuchTransaction(Check check) {
        noTransaction(check, "awaited", LockManager::awaited);
    }

    // ---- Promise 19: waitsFor

    @Sentence(of = "Promise 19", says = TRANSACTIONS)
    static void promise19TheFirstAndTheLastTransaction(Check check) {
        LockManager m = Setup.ran("b0;b3;b7;x34;x35;x04;x75");
        answers(check, "waitsFor", m, LockManager::waitsFor, 8, 0, 0, 0, 0, 0, 0, 8);
    }

    @Sentence(of = "Promise 19", says = "Returns the set of these transactions; bit t is for the transaction t "
            + "(0 if the transaction is not WAITING).")
    static void promise19NobodyOneAndAllOthers(Check check) {
        answers(check, "waitsFor", new LockManager(), LockManager::waitsFor, 0, 0, 0, 0, 0, 0, 0, 0);
        for (int u = 0; u < 7; u++) {
            LockManager m = Setup.begun(8);
            m.request(u, 0, EXCLUSIVE);
            m.request(7, 0, SHARED);
            check.due("waitsFor of one that waits for " + u, 1 << u, m.waitsFor(7));
            check.due("waitsFor of an active one", 0, m.waitsFor(u));
        }
        LockManager holders = Setup.ran("b0;b1;b2;b3;b4;b5;b6;b7;s10;s20;s30;s40;s50;s60;s70;x00");
        answers(check, "waitsFor", holders, LockManager::waitsFor, 0b11111110, 0, 0, 0, 0, 0, 0, 0);
        LockManager queue = Setup.ran("b0;b1;b2;b3;b4;b5;b6;b7;x00;x10;x20;x30;x40;x50;x60;x70");
        answers(check, "waitsFor", queue, LockManager::waitsFor, 0, 1, 3, 7, 15, 31, 63, 127);
        queue.withdraw(7);
        check.due("waitsFor after withdraw", 0, queue.waitsFor(7));
    }

    @Sentence(of = "Promise 19", says = NO_TRANSACTION)
    static void promise19NoSuchTransaction(Check check) {
        noTransaction(check, "waitsFor", LockManager::waitsFor);
    }

    // ---- Promise 20: blockers

    @Sentence(of = "Promise 20", says = TRANSACTIONS)
    static void promise20TheFirstAndTheLastTransaction(Check check) {
        LockManager m = Setup.ran("b0;b3;b7;x34;x35;x04;x75");
        answers(check, "blockers", m, LockManager::blockers, 1, 0, 0, 0, 0, 0, 0, 1);
    }

    @Sentence(of = "Promise 20", says = "Returns the number of transactions without whose progress a transaction "
            + "cannot go on: those for which it waits, those for which these wait, and so on.")
    static void promise20FromNobodyToAChainOfAll(Check check) {
        answers(check, "blockers", new LockManager(), LockManager::blockers, 0, 0, 0, 0, 0, 0, 0, 0);
        for (int last = 0; last < 8; last++) {
            LockManager up = chainOfAll(last, 7);
            LockManager down = chainOfAll(last, 1);
            for (int ahead = 0; ahead < 8; ahead++) {
                check.due("blockers, ascending to " + last, ahead, up.blockers((last + 7 * ahead) % 8));
                check.due("blockers, descending to " + last, ahead, down.blockers((last + ahead) % 8));
            }
        }
    }

    /** All hold one resource each, and each one but the last waits for the next one. */
    private static LockManager chainOfAll(int last, int step) {
        LockManager m = Setup.begun(8);
        for (int t = 0; t < 8; t++) {
            m.request(t, t, EXCLUSIVE);
        }
        for (int i = 1; i < 8; i++) {
            m.request((last + step * i) % 8, (last + step * (i - 1)) % 8, SHARED);
        }
        return m;
    }

    @Sentence(of = "Promise 20", says = "Returns the number of these transactions, without the transaction itself.")
    static void promise20EachOneOnceAndNotItself(Check check) {
        LockManager fork = Setup.ran("b0;b1;b2;b3;s00;s10;x30;x22;x02;s12");
        answers(check, "blockers", fork, LockManager::blockers, 1, 2, 0, 3, 0, 0, 0, 0);
        LockManager upgrade = Setup.ran("b0;b1;b2;s00;s10;x20;x00");
        answers(check, "blockers", upgrade, LockManager::blockers, 1, 0, 2, 0, 0, 0, 0, 0);
    }

    @Sentence(of = "Promise 20", says = NO_TRANSACTION)
    static void promise20NoSuchTransaction(Check check) {
        noTransaction(check, "blockers", LockManager::blockers);
    }

    // ---- Promise 21: holders

    @Sentence(of = "Promise 21", says = RESOURCES)
    static void promise21TheFirstAndTheLastResource(Check check) {
        answers(check, "holders", Setup.ran("b3;b4;s30;x49"), LockManager::holders, 8, 0, 0, 0, 0, 0, 0, 0, 0, 16);
    }

    @Sentence(of = "Promise 21", says = "Returns the set of these transactions; bit t is for the transaction t.")
    static void promise21NobodyOneAndAll(Check check) {
        answers(check, "holders", new LockManager(), LockManager::holders, 0, 0, 0, 0, 0, 0, 0, 0, 0, 0);
        int set = 0;
        LockManager m = Setup.begun(8);
        for (int t = 7; t >= 0; t--) {
            m.request(t, 0, SHARED);
            set |= 1 << t;
            check.due("holders with " + t, set, m.holders(0));
            LockManager alone = Setup.begun(8);
            alone.request(t, 9, EXCLUSIVE);
            check.due("holders with " + t + " alone", 1 << t, alone.holders(9));
        }
        m.request(0, 0, EXCLUSIVE);
        check.due("one that holds it and waits", 255, m.holders(0));
        LockManager waiting = Setup.ran("b0;b1;x00;x10");
        check.due("one that waits only", 1, waiting.holders(0));
    }

    @Sentence(of = "Promise 21", says = NO_RESOURCE)
    static void promise21NoSuchResource(Check check) {
        noResource(check, "holders", LockManager::holders);
    }

    // ---- Promise 22: queueLength

    @Sentence(of = "Promise 22", says = RESOURCES)
    static void promise22TheFirstAndTheLastResource(Check check) {
        LockManager m = Setup.ran("b0;b1;b2;b3;x00;x09;x10;x29;s39");
        answers(check, "queueLength", m, LockManager::queueLength, 1, 0, 0, 0, 0, 0, 0, 0, 0, 2);
    }

    @Sentence(of = "Promise 22", says = "Returns the number of requests.")
    static void promise22FromNoneToSevenAndBack(Check check) {
        answers(check, "queueLength", new LockManager(), LockManager::queueLength, 0, 0, 0, 0, 0, 0, 0, 0, 0, 0);
        LockManager m = Setup.begun(8);
        m.request(0, 4, EXCLUSIVE);
        check.due("queueLength with a holder", 0, m.queueLength(4));
        for (int t = 1; t < 8; t++) {
            m.request(t, 4, EXCLUSIVE);
            check.due("queueLength with " + t, t, m.queueLength(4));
        }
        for (int t = 7; t >= 1; t--) {
            m.withdraw(t);
            check.due("queueLength without " + t, t - 1, m.queueLength(4));
        }
    }

    @Sentence(of = "Promise 22", says = NO_RESOURCE)
    static void promise22NoSuchResource(Check check) {
        noResource(check, "queueLength", LockManager::queueLength);
    }

    // ---- Promise 23: queued

    @Sentence(of = "Promise 23", says = RESOURCES)
    static void promise23TheFirstAndTheLastResource(Check check) {
        LockManager m = Setup.ran("b0;b1;b2;x00;x09;x10;s29");
        answers(check, "queued first", m, (n, r) -> n.queued(r, 0), 12, -1, -1, -1, -1, -1, -1, -1, -1, 21);
    }

    @Sentence(of = "Promise 23", says = "`index`: 0 for the first request of the queue")
    static void promise23FromTheFirstIndexToTheLast(Check check) {
        LockManager m = Setup.ran("b0;b1;b2;b3;b4;b5;b6;b7;x04;s74;x64;s54;x44;s34;x24;s14");
        answers(check, "queued", m, (n, i) -> n.queued(4, i), 71, 62, 51, 42, 31, 22, 11);
    }

    @Sentence(of = "Promise 23", says = "Returns 10 * transaction + mode; NONE if the queue does not have "
            + "so many requests.")
    static void promise23BehindTheEndOfEachQueue(Check check) {
        for (int requests = 0; requests <= 7; requests++) {
            LockManager m = Setup.ran("b0;b1;b2;b3;b4;b5;b6;b7;x70;x79;x71");
            for (int t = 0; t < requests; t++) {
                m.request(t, 0, 1 + t % 2);
            }
            for (int i = 0; i < requests; i++) {
                check.due("queued(0, " + i + ")", 10 * i + 1 + i % 2, m.queued(0, i));
            }
            for (int i = requests; i < 12; i++) {
                check.due("queued(0, " + i + ") of " + requests, NONE, m.queued(0, i));
            }
            check.due("queued far behind", NONE, m.queued(0, Integer.MAX_VALUE));
        }
        LockManager gone = Setup.ran("b0;b1;b2;b7;x79;x09;x19;x29;k2;k0");
        answers(check, "queued after withdrawals", gone, (n, i) -> n.queued(9, i), 12, NONE, NONE);
        LockManager served = Setup.ran("b0;b1;b2;b7;x79;x09;x19;c7");
        answers(check, "queued after a grant", served, (n, i) -> n.queued(9, i), 12, NONE, NONE);
    }

    @Sentence(of = "Promise 23", says = "Throws `IndexOutOfBoundsException` if there is no such resource, or if the "
            + "index is negative")
    static void promise23NoSuchResourceOrANegativeIndex(Check check) {
        noResource(check, "queued of none", (m, none) -> m.queued(none, 0));
        noResource(check, "queued of none, far behind", (m, none) -> m.queued(none, Integer.MAX_VALUE));
        for (int none : new int[] {-1, -2, Integer.MIN_VALUE}) {
            for (int r : new int[] {0, 1, 9}) {
                Refused.everywhere(check, Refused.BOUNDS, "queued(" + r + ", " + none + ")", m -> m.queued(r, none));
            }
        }
        Refused.everywhere(check, Refused.BOUNDS, "queued(10, -1)", m -> m.queued(10, -1));
    }

    // ---- Promises 24 and 25: ifRequested and victimsOf

    private static final String TWO_RINGS = "b5;b0;b7;s00;s70;x51;w5,9;x01;s71";

    @Sentence(of = "Promise 24", says = TRANSACTIONS)
    static void promise24TheFirstAndTheLastTransaction(Check check) {
        LockManager m = Setup.ran("b0;b7;x03;x74");
        check.due("ifRequested of 0", GRANTED, m.ifRequested(0, 3, SHARED));
        check.due("ifRequested of 0", QUEUED, m.ifRequested(0, 4, SHARED));
        check.due("ifRequested of 7", QUEUED, m.ifRequested(7, 3, SHARED));
        check.due("ifRequested of 7", GRANTED, m.ifRequested(7, 4, SHARED));
    }

    @Sentence(of = "Promise 24", says = RESOURCES)
    static void promise24TheFirstAndTheLastResource(Check check) {
        LockManager m = Setup.ran("b0;b7;x00;x79");
        check.due("ifRequested for 0", GRANTED, m.ifRequested(0, 0, SHARED));
        check.due("ifRequested for 9", QUEUED, m.ifRequested(0, 9, SHARED));
        check.due("ifRequested for 0", QUEUED, m.ifRequested(7, 0, SHARED));
        check.due("ifRequested for 9", GRANTED, m.ifRequested(7, 9, SHARED));
    }

    @Sentence(of = "Promise 24", says = MODES)
    static void promise24BothModes(Check check) {
        LockManager m = Setup.ran("b0;b1;s00");
        check.due("ifRequested with the mode 1", GRANTED, m.ifRequested(1, 0, 1));
        check.due("ifRequested with the mode 2", QUEUED, m.ifRequested(1, 0, 2));
    }

    @Sentence(of = "Promise 24", says = "Returns GRANTED, QUEUED or ABORTED; NONE if the transaction is not ACTIVE.")
    static void promise24NotActiveAndEachResult(Check check) {
        answers(check, "ifRequested", new LockManager(), (m, t) -> m.ifRequested(t, 0, SHARED), -1, -1, -1, -1, -1, -1,
                -1, -1);
        answers(check, "ifRequested for 9", ends(), (m, t) -> m.ifRequested(t, 9, SHARED), -1, -1, -1, 2, -1, -1, -1,
                1);
        check.due("what it holds already, waiting", NONE, Setup.ran("b0;b1;x00;s11;x10").ifRequested(1, 1, SHARED));
        check.due("a free one", 1, Setup.ran("b0").ifRequested(0, 0, EXCLUSIVE));
        check.due("one that another holds", 2, Setup.ran("b0;b1;x00").ifRequested(1, 0, EXCLUSIVE));
        check.due("a ring of which it is the victim", 3,
                Setup.ran("b0;b1;x00;x11;x01").ifRequested(1, 0, EXCLUSIVE));
        check.due("a ring of which it is not", 1,
                Setup.ran("b0;b1;w1,5;x00;x11;x01").ifRequested(1, 0, EXCLUSIVE));
        check.due("two rings", 1, Setup.ran(TWO_RINGS).ifRequested(5, 0, EXCLUSIVE));
        check.due("after an end", NONE, Setup.ran("b0;c0").ifRequested(0, 0, SHARED));
    }

    @Sentence(of = "Promise 24", says = NEITHER)
    static void promise24NoSuchTransactionOrResource(Check check) {
        noTransaction(check, "ifRequested of none", (m, none) -> m.ifRequested(none, 0, SHARED));
        noResource(check, "ifRequested for none", (m, none) -> m.ifRequested(0, none, SHARED));
    }

    @Sentence(of = "Promise 24", says = NO_MODE)
    static void promise24NoSuchMode(Check check) {
        noMode(check, "ifRequested", (m, none) -> m.ifRequested(0, 9, none));
    }

    @Sentence(of = "Promise 25", says = TRANSACTIONS)
    static void promise25TheFirstAndTheLastTransaction(Check check) {
        LockManager last = Setup.ran("b7;b0;w7,5;x70;x01;x00");
        check.due("victimsOf of 7", 0b1, last.victimsOf(7, 1, EXCLUSIVE));
        LockManager first = Setup.ran("b0;b7;w0,5;x00;x71;x70");
        check.due("victimsOf of 0", 0b10000000, first.victimsOf(0, 1, EXCLUSIVE));
    }

    @Sentence(of = "Promise 25", says = RESOURCES)
    static void promise25TheFirstAndTheLastResource(Check check) {
        LockManager m = Setup.ran("b0;b1;b2;x05;s10;s29;x15;x25");
        check.due("victimsOf for 0", 0b010, m.victimsOf(0, 0, EXCLUSIVE));
        check.due("victimsOf for 9", 0b100, m.victimsOf(0, 9, EXCLUSIVE));
    }

    @Sentence(of = "Promise 25", says = MODES)
    static void promise25BothModes(Check check) {
        LockManager m = Setup.ran("b0;b1;x05;s10;x15");
        check.due("victimsOf with the mode 1", 0, m.victimsOf(0, 0, 1));
        check.due("victimsOf with the mode 2", 0b10, m.victimsOf(0, 0, 2));
    }

    @Sentence(of = "Promise 25", says = "Returns the set of the victims; bit t is for the transaction t (0 if the "
            + "transaction is not ACTIVE).")
    static void promise25NotActiveAndNobodyToSeven(Check check) {
        answers(check, "victimsOf", new LockManager(), (m, t) -> m.victimsOf(t, 0, SHARED), 0, 0, 0, 0, 0, 0, 0, 0);
        check.due("a waiting one", 0, Setup.ran("b0;b1;x00;x11;x10").victimsOf(1, 0, EXCLUSIVE));
        check.due("a waiting one that holds", 0, Setup.ran("b0;b1;b2;s00;s10;x00").victimsOf(0, 0, EXCLUSIVE));
        LockManager waiting = Setup.ran("b0;b1;b2;x00;x11;x22;x21;x10");
        check.due("a waiting one, for which another one waits", 0, waiting.victimsOf(1, 2, EXCLUSIVE));
        check.due("an idle one", 0, Setup.ran("b0;x00").victimsOf(1, 0, EXCLUSIVE));
        check.due("a free one", 0, Setup.ran("b0").victimsOf(0, 0, EXCLUSIVE));
        check.due("itself", 0b10, Setup.ran("b0;b1;x00;x11;x01").victimsOf(1, 0, EXCLUSIVE));
        check.due("two", 0b10000001, Setup.ran(TWO_RINGS).victimsOf(5, 0, EXCLUSIVE));
        LockManager seven = Setup.ran("b7;b0;b1;b2;b3;b4;b5;b6;w7,50;s00;s10;s20;s30;s40;s50;s60;x71");
        Setup.run(seven, "s01;s11;s21;s31;s41;s51;s61");
        check.due("seven", 0b01111111, seven.victimsOf(7, 0, EXCLUSIVE));
    }

    @Sentence(of = "Promise 25", says = NEITHER)
    static void promise25NoSuchTransactionOrResource(Check check) {
        noTransaction(check, "victimsOf of none", (m, none) -> m.victimsOf(none, 0, SHARED));
        noResource(check, "victimsOf for none", (m, none) -> m.victimsOf(0, none, SHARED));
    }

    @Sentence(of = "Promise 25", says = NO_MODE)
    static void promise25NoSuchMode(Check check) {
        noMode(check, "victimsOf", (m, none) -> m.victimsOf(0, 9, none));
    }

    // ---- Promises 26 to 28: brokenRings, lostWork and locksHeld

    @Sentence(of = "Promise 26", says = "Returns the number of rings that were broken so far.")
    static void promise26FromNone(Check check) {
        check.due("at first", 0, new LockManager().brokenRings());
        LockManager m = Setup.ran("b0;b1;w0,100;x00;x11;x10");
        check.due("before the first", 0, m.brokenRings());
        m.request(0, 1, EXCLUSIVE);
        check.due("the first", 1, m.brokenRings());
        Setup.run(m, "x12;x10;x02");
        check.due("the second", 2, m.brokenRings());
        m.undo();
        check.due("undone", 1, m.brokenRings());
        LockManager two = Setup.ran(TWO_RINGS);
        check.due("none yet", 0, two.brokenRings());
        two.request(5, 0, EXCLUSIVE);
        check.due("two by one call", 2, two.brokenRings());
    }

    @Sentence(of = "Promise 27", says = "Returns the work that was lost so far.")
    static void promise27FromNone(Check check) {
        check.due("at first", 0, new LockManager().lostWork());
        check.due("a ring whose victim has no work", 0,
                Setup.ran("b0;b1;b2;w0,5;w2,5;s00;x21;x10;s20;s01").lostWork());
        LockManager m = Setup.ran("b0;b1;w0,1000;w0,1000;w1,1000;x00;x11;x10");
        check.due("before the first", 0, m.lostWork());
        m.request(0, 1, EXCLUSIVE);
        check.due("the first", 1001, m.lostWork());
        Setup.run(m, "x12;x10;x02");
        check.due("the second adds to it", 1002, m.lostWork());
        m.commit(0);
        m.commit(1);
        check.due("it stays when all have ended", 1002, m.lostWork());
        LockManager much = Setup.ran("b0;b1;x00;x11");
        for (int i = 0; i < 400; i++) {
            much.work(i % 2, 1000);
        }
        Setup.run(much, "x10;x01");
        check.due("much work", 200001, much.lostWork());
    }

    @Sentence(of = "Promise 28", says = "Returns the number of locks that are held; a lock of a transaction on a "
            + "resource counts once.")
    static void promise28FromNoneToEighty(Check check) {
        LockManager m = Setup.begun(8);
        check.due("at first", 0, m.locksHeld());
        for (int i = 0; i < 80; i++) {
            m.request(i / 10, i % 10, SHARED);
            check.due("locksHeld", i + 1, m.locksHeld());
        }
        m.request(0, 0, SHARED);
        m.request(0, 0, EXCLUSIVE);
        check.due("a second request of the same lock", 80, m.locksHeld());
        LockManager upgrade = Setup.ran("b0;s00;x00");
        check.due("an upgrade", 1, upgrade.locksHeld());
        LockManager waiting = Setup.ran("b0;b1;x00;x10");
        check.due("a request is no lock", 1, waiting.locksHeld());
        waiting.commit(0);
        check.due("one goes, one comes", 1, waiting.locksHeld());
        waiting.commit(1);
        check.due("the last one goes", 0, waiting.locksHeld());
    }
}
