/** The boundary cases that the document names in "What it is" and in the sections 1 to 3. */
public final class BoundaryLocksTest {
    private static final int SHARED = LockManager.SHARED;
    private static final int EXCLUSIVE = LockManager.EXCLUSIVE;
    private static final int GRANTED = LockManager.GRANTED;
    private static final int QUEUED = LockManager.QUEUED;
    private static final int NONE = LockManager.NONE;

    public static void main(String[] args) {
        Sentences.testAllOf(BoundaryLocksTest.class);
    }

    // ---- What it is

    @Sentence(of = "What it is", says = "An object is used for at most 512 calls after it has been made;")
    static void whatItIsTheLastOf512CallsHolds(Check check) {
        LockManager births = new LockManager();
        for (int i = 0; i < 256; i++) {
            check.due("begin " + i, i, births.begin(i % 8));
            check.due("rollBack " + i, 0, births.rollBack(i % 8));
        }
        LockManager works = new LockManager();
        works.begin(7);
        for (int i = 1; i < 511; i++) {
            check.due("work " + i, 1000 * i, works.work(7, 1000));
        }
        check.due("the 512th call", 510000, works.workOf(7));
        LockManager texts = new LockManager();
        texts.begin(0);
        Setup.append(texts, "w0,1000;".repeat(9) + "w0,1000");
        for (int i = 0; i < 431; i++) {
            check.due("runText " + i, 10, texts.runText());
        }
        check.due("the 512th call with a text", 4310000, texts.workOf(0));
    }

    // ---- 1. TRANSACTIONS AND RESOURCES

    @Sentence(of = "Section 1", says = "There are eight transactions, numbered 0 to 7, "
            + "and ten resources, numbered 0 to 9.")
    static void section1EightTransactionsAndTenResources(Check check) {
        for (int t = 0; t < 8; t++) {
            for (int r = 0; r < 10; r++) {
                LockManager m = new LockManager();
                m.begin(t);
                check.due("request(" + t + ", " + r + ")", GRANTED, m.request(t, r, EXCLUSIVE));
                check.due("held", EXCLUSIVE, m.held(t, r));
                check.due("holders", 1 << t, m.holders(r));
            }
        }
        for (int none : new int[] {-1, 8}) {
            Refused.everywhere(check, Refused.BOUNDS, "the transaction " + none, m -> m.state(none));
        }
        for (int none : new int[] {-1, 10}) {
            Refused.everywhere(check, Refused.BOUNDS, "the resource " + none, m -> m.holders(none));
        }
    }

    @Sentence(of = "Section 1", says = "A transaction is IDLE (0), ACTIVE (1) or WAITING (2); "
            + "at first all transactions are IDLE.")
    static void section1AtFirstAllAreIdle(Check check) {
        LockManager m = new LockManager();
        for (int t = 0; t < 8; t++) {
            check.due("state of " + t + " at first", 0, m.state(t));
        }
        m.begin(0);
        m.begin(7);
        m.request(0, 0, EXCLUSIVE);
        m.request(7, 0, EXCLUSIVE);
        int[] due = {1, 0, 0, 0, 0, 0, 0, 2};
        for (int t = 0; t < 8; t++) {
            check.due("state of " + t, due[t], m.state(t));
        }
    }

    @Sentence(of = "Section 1", says = "A transaction that is ACTIVE or WAITING has an amount of work, "
            + "an abort count and a birth number.")
    static void section1OnlyAnIdleOneHasNoNumbers(Check check) {
        LockManager m = Scenes.busy();
        check.due("an active one", "42 0 0", numbersOf(m, 0));
        check.due("a waiting one", "0 1 1", numbersOf(m, 1));
        check.due("an idle one", "-1 -1 -1", numbersOf(m, 3));
        m.commit(0);
        check.due("one that has committed", "-1 -1 -1", numbersOf(m, 0));
        m.rollBack(1);
        check.due("one that was rolled back", "-1 -1 -1", numbersOf(m, 1));
    }

    private static String numbersOf(LockManager m, int t) {
        return m.workOf(t) + " " + m.abortsOf(t) + " " + m.birthOf(t);
    }

    @Sentence(of = "Section 1", says = "Birth numbers are given in ascending order, from 0 on, "
            + "when transactions begin.")
    static void section1BirthNumbersAscendFromZero(Check check) {
        LockManager m = new LockManager();
        check.due("the first", 0, m.begin(7));
        check.due("the second", 1, m.begin(0));
        m.commit(7);
        check.due("after a commit", 2, m.begin(7));
        m.rollBack(0);
        check.due("after a rollBack", 3, m.begin(0));
        Refused.answer(m, n -> n.begin(0));
        Refused.answer(m, n -> n.begin(8));
        check.due("after refused ones", 4, m.begin(1));
        Setup.run(m, "b2;a2;b2");
        check.due("of one in a text", 6, m.birthOf(2));
        check.due("after a text", 7, m.begin(3));
    }

    @Sentence(of = "Section 1", says = "A transaction can hold a lock on a resource in one of two modes, "
            + "SHARED (1) or EXCLUSIVE (2).")
    static void section1NoLockOneModeOrTheOther(Check check) {
        LockManager m = Setup.begun(1);
        check.due("no lock", 0, m.held(0, 0));
        m.request(0, 0, 1);
        check.due("a shared lock", 1, m.held(0, 0));
        m.request(0, 0, 2);
        check.due("an exclusive lock in its place", 2, m.held(0, 0));
        m.request(0, 0, 1);
        check.due("an exclusive lock stays", 2, m.held(0, 0));
        check.due("it is one lock", 1, m.locksHeld());
    }

    @Sentence(of = "Section 1", says = "SHARED locks of several transactions on the same resource are compatible; "
            + "an EXCLUSIVE lock is compatible with no lock of another transaction on the same resource.")
    static void section1OnlySharedLocksAreCompatible(Check check) {
        LockManager m = Setup.begun(8);
        for (int t = 0; t < 8; t++) {
            check.due("shared of " + t, GRANTED, m.request(t, 5, SHARED));
        }
        check.due("all eight hold it", 255, m.holders(5));
        check.due("exclusive elsewhere", GRANTED, m.request(0, 4, EXCLUSIVE));
        check.due("one's own", GRANTED, m.request(0, 4, SHARED));
        check.due("shared beside exclusive", QUEUED, m.request(1, 4, SHARED));
        check.due("exclusive elsewhere still", GRANTED, m.request(2, 6, EXCLUSIVE));
        check.due("exclusive beside exclusive", QUEUED, m.request(3, 6, EXCLUSIVE));
        check.due("exclusive beside shared", QUEUED, m.request(4, 5, EXCLUSIVE));
    }

    @Sentence(of = "Section 1", says = "Each resource has a queue of requests.")
    static void section1AnEmptyAndAFullQueueOfEachResource(Check check) {
        for (int r = 0; r < 10; r++) {
            LockManager m = Setup.begun(8);
            m.request(7, r, EXCLUSIVE);
            for (int t = 0; t < 7; t++) {
                check.due("queueLength(" + r + ")", t, m.queueLength(r));
                check.due("request " + t, QUEUED, m.request(t, r, EXCLUSIVE));
                check.due("queued(" + r + ", " + t + ")", 10 * t + EXCLUSIVE, m.queued(r, t));
            }
            check.due("a full queue", 7, m.queueLength(r));
            for (int other = 0; other < 10; other++) {
                check.due("queueLength(" + other + ")", other == r ? 7 : 0, m.queueLength(other));
            }
        }
    }

    @Sentence(of = "Section 1", says = "It is an upgrade if its transaction holds a SHARED lock on the resource; "
            + "the mode of an upgrade is EXCLUSIVE.")
    static void section1AnUpgradeOnlyWithASharedLockThere(Check check) {
        LockManager m = Setup.ran("b0;b1;b2;b3;s00;s10;s25;s35;x20");
        check.due("a shared lock elsewhere makes no upgrade", QUEUED, m.request(3, 0, EXCLUSIVE));
        check.due("so it stands at the end", 32, m.queued(0, 1));
        check.due("a shared lock there does", QUEUED, m.request(1, 0, EXCLUSIVE));
        check.due("so it stands first, and is exclusive", 12, m.queued(0, 0));
    }

    @Sentence(of = "Section 1", says = "A transaction is WAITING exactly if it has a request in a queue, "
            + "and then it has exactly one.")
    static void section1AWaitingOneHasExactlyOneRequest(Check check) {
        Refused.in(check, Scenes::busy, Refused.STATE, "a second request", m -> m.request(1, 9, SHARED));
        Refused.in(check, Scenes::busy, Refused.STATE, "the same request again", m -> m.request(1, 0, SHARED));
        LockManager m = Setup.ran("b0;b1;x00");
        check.due("without a request", LockManager.ACTIVE, m.state(1));
        m.request(1, 0, SHARED);
        check.due("with one", LockManager.WAITING, m.state(1));
        check.due("it is in one queue", 1, allQueues(m));
        m.withdraw(1);
        check.due("after a withdrawal", LockManager.ACTIVE, m.state(1));
        check.due("it is in none", 0, allQueues(m));
        m.request(1, 0, SHARED);
        m.commit(0);
        check.due("after a grant", LockManager.ACTIVE, m.state(1));
        check.due("it is in none again", 0, allQueues(m));
    }

    private static int allQueues(LockManager m) {
        int requests = 0;
        for (int r = 0; r < 10; r++) {
            requests += m.queueLength(r);
        }
        return requests;
    }

    // ---- 2. REQUESTS

    @Sentence(of = "Section 2", says = "If T holds a lock on the resource in the requested mode, or in the mode "
            + "EXCLUSIVE, the request is granted and nothing changes.")
    static void section2HeldAlreadyChangesNothing(Check check) {
        LockManager m = Setup.ran("b0;b1;b2;s00;s10;x20;x03;x13");
        String before = Snapshot.stateOf(m);
        check.due("shared with shared, and a queue", GRANTED, m.request(0, 0, SHARED));
        check.due("exclusive with exclusive, and a queue", GRANTED, m.request(0, 3, EXCLUSIVE));
        check.due("shared with exclusive, and a queue", GRANTED, m.request(0, 3, SHARED));
        check.due("the state", before, Snapshot.stateOf(m));
    }

    @Sentence(of = "Section 2", says = "If T holds a SHARED lock on the resource and no other transaction holds "
            + "a lock on it, the request is granted.")
    static void section2TheOnlyHolderUpgrades(Check check) {
        LockManager alone = Setup.ran("b0;s00");
        check.due("with an empty queue", GRANTED, alone.request(0, 0, EXCLUSIVE));
        check.due("it holds exclusively", EXCLUSIVE, alone.held(0, 0));
        LockManager queue = Setup.ran("b0;b1;b2;b3;b4;b5;b6;b7;s00;x10;x20;x30;s40;s50;x60;x70");
        check.due("with a full queue", GRANTED, queue.request(0, 0, EXCLUSIVE));
        check.due("it holds exclusively, too", EXCLUSIVE, queue.held(0, 0));
        check.due("the queue stays full", 7, queue.queueLength(0));
        LockManager beside = Setup.ran("b0;b7;s00;s70");
        check.due("with one other holder", QUEUED, beside.request(0, 0, EXCLUSIVE));
        check.due("it holds what it held", SHARED, beside.held(0, 0));
    }

    @Sentence(of = "Section 2", says = "If T holds a SHARED lock on the resource, the request is an upgrade. It is "
            + "put into the queue behind all upgrades and ahead of all other requests.")
    static void section2AnUpgradeGoesAheadOfAllOthers(Check check) {
        LockManager empty = Setup.ran("b0;b1;s00;s10");
        check.due("into an empty queue", QUEUED, empty.request(0, 0, EXCLUSIVE));
        check.due("it is first", 2, empty.queued(0, 0));
        check.due("and alone", 1, empty.queueLength(0));
        LockManager full = Setup.ran("b0;b1;b2;b3;b4;b5;b6;b7;s00;s10;x20;s30;x40;s50;x60;s70");
        check.due("into a queue of six", QUEUED, full.request(0, 0, EXCLUSIVE));
        int[] due = {2, 22, 31, 42, 51, 62, 71, NONE};
        for (int i = 0; i < due.length; i++) {
            check.due("queued(0, " + i + ")", due[i], full.queued(0, i));
        }
    }

    @Sentence(of = "Section 2", says = "If T holds a SHARED lock on the resource, the request is an upgrade. It is "
            + "put into the queue behind all upgrades and ahead of all other requests.")
    static void section2AnUpgradeAtEachResourceWithLocksAndUpgradesElsewhere(Check check) {
        for (int i = 0; i < 100; i++) {
            int here = i / 10;
            int there = i % 10;
            if (here != there) {
                upgradeHere(check, here, there);
            }
        }
    }

    /** All hold all resources but these two; there, 4 waits for an upgrade, ahead of 6. */
    private static void upgradeHere(Check check, int here, int there) {
        LockManager m = Setup.begun(8);
        for (int i = 0; i < 80; i++) {
            int resource = i % 10;
            if (resource != here && resource != there) {
                m.request(i / 10, resource, SHARED);
            }
        }
        Setup.run(m, "s4t;s5t;x6t;x4t;s0h;s7h;x2h;s3h".replace('t', (char) ('0' + there))
                .replace('h', (char) ('0' + here)));
        String what = "upgrade at " + here + " with one at " + there;
        check.due(what, QUEUED, m.request(0, here, EXCLUSIVE));
        int[] due = {2, 22, 31, NONE};
        for (int i = 0; i < due.length; i++) {
            check.due(what + ": queued " + i, due[i], m.queued(here, i));
        }
        check.due(what + ": the first there", 42, m.queued(there, 0));
        check.due(what + ": the second there", 62, m.queued(there, 1));
    }

    @Sentence(of = "Section 2", says = "behind all upgrades")
    static void section2ASecondUpgradeMakesAQueueOfEight(Check check) {
        LockManager m = Setup.ran("b0;b1;b2;b3;b4;b5;b6;b7;s00;s10;x20;s30;x40;s50;x60;s70;w0,9;x00");
        check.due("an upgrade behind an upgrade", 0b10, m.victimsOf(1, 0, EXCLUSIVE));
        check.due("the eighth request of the queue", LockManager.ABORTED, m.request(1, 0, EXCLUSIVE));
        check.due("the first upgrade is granted", EXCLUSIVE, m.held(0, 0));
        int[] due = {22, 31, 42, 51, 62, 71, NONE};
        for (int i = 0; i < due.length; i++) {
            check.due("queued(0, " + i + ")", due[i], m.queued(0, i));
        }
    }

    @Sentence(of = "Section 2", says = "If the queue of the resource is empty and the requested mode is compatible "
            + "with all locks of other transactions on the resource, the request is granted.")
    static void section2FreeWithAnEmptyQueue(Check check) {
        LockManager m = Setup.ran("b0;b1;b2;b3");
        check.due("no lock, shared", GRANTED, m.request(0, 0, SHARED));
        check.due("no lock, exclusive", GRANTED, m.request(0, 1, EXCLUSIVE));
        check.due("a compatible lock", GRANTED, m.request(1, 0, SHARED));
        check.due("a lock that is not compatible", QUEUED, m.request(2, 1, SHARED));
        check.due("an empty queue, but not compatible", QUEUED, m.request(1, 0, EXCLUSIVE));
        check.due("compatible, but one in the queue", QUEUED, m.request(3, 0, SHARED));
        m.withdraw(1);
        check.due("the queue is empty again", 0, m.queueLength(0));
        m.commit(3);
        m.begin(3);
        check.due("compatible again", GRANTED, m.request(3, 0, SHARED));
    }

    @Sentence(of = "Section 2", says = "Otherwise the request is put at the end of the queue.")
    static void section2AtTheEndOfTheQueue(Check check) {
        LockManager m = Setup.ran("b0;b1;b2;b3;b4;b5;b6;b7;x39");
        int[] order = {7, 0, 5, 1, 6, 2, 4};
        for (int i = 0; i < order.length; i++) {
            int mode = 1 + i % 2;
            check.due("request of " + order[i], QUEUED, m.request(order[i], 9, mode));
            check.due("it is last", 10 * order[i] + mode, m.queued(9, i));
            check.due("the first one stays first", 71, m.queued(9, 0));
            check.due("nobody is behind it", NONE, m.queued(9, i + 1));
        }
    }

    @Sentence(of = "Section 2", says = "When a request is granted by the second or the fourth rule, T holds a lock in "
            + "the requested mode, instead of the one it held, and its work increases by 1.")
    static void section2WorkOnlyForTheSecondAndFourthRule(Check check) {
        LockManager m = Setup.ran("b0;b1");
        check.due("before", 0, m.workOf(0));
        m.request(0, 0, SHARED);
        check.due("the fourth rule", 1, m.workOf(0));
        m.request(0, 0, SHARED);
        check.due("the first rule", 1, m.workOf(0));
        m.request(0, 0, EXCLUSIVE);
        check.due("the second rule", 2, m.workOf(0));
        check.due("instead of the one it held", 1, m.locksHeld());
        check.due("in the requested mode", EXCLUSIVE, m.held(0, 0));
        m.request(0, 0, SHARED);
        check.due("the first rule, exclusive", 2, m.workOf(0));
        m.request(1, 0, SHARED);
        check.due("the fifth rule", 0, m.workOf(1));
        LockManager upgrade = Setup.ran("b0;b1;s00;s10;x00");
        check.due("the third rule", 1, upgrade.workOf(0));
    }

    @Sentence(of = "Section 2", says = "When a request is put into a queue, T becomes WAITING, and deadlocks are "
            + "broken (section 4).")
    static void section2WaitingAndNoDeadlockIsLeft(Check check) {
        LockManager m = Setup.ran("b0;b1;x00;x11");
        m.request(0, 1, SHARED);
        check.due("without a ring it waits", LockManager.WAITING, m.state(0));
        check.due("and nothing is broken", 0, m.brokenRings());
        m.request(1, 0, SHARED);
        check.due("with a ring one is broken", 1, m.brokenRings());
        check.due("the victim waits no longer", LockManager.ACTIVE, m.state(1));
        LockManager granted = Setup.ran("b0;x00");
        granted.request(0, 1, EXCLUSIVE);
        check.due("a granted request does not wait", LockManager.ACTIVE, granted.state(0));
    }

    // ---- 3. QUEUES

    private static final String SERVED = "When a transaction ends, is aborted or withdraws its request, the queues are "
            + "served: for each resource, in ascending order of the numbers, as long as the first request of its "
            + "queue can be granted, it is granted and removed from the queue.";

    @Sentence(of = "Section 3", says = SERVED)
    static void section3ServedAsLongAsTheFirstCanBeGranted(Check check) {
        check.due("empty queues", 0, Setup.ran("b0;x00").commit(0));
        LockManager one = Setup.ran("b0;b1;b2;b3;x00;x10;s20;s30");
        check.due("the first alone", 1, one.commit(0));
        check.due("the others stay, in order", "21 31 -1", queueOf(one, 0));
        LockManager some = Setup.ran("b0;b1;b2;b3;b4;x00;s10;s20;x30;s40");
        check.due("up to the first that can't be", 2, some.rollBack(0));
        check.due("the one behind it stays, too", "32 41 -1", queueOf(some, 0));
        LockManager none = Setup.ran("b0;b1;b2;b3;s00;s10;x20;s30");
        check.due("none while the first one can't be", 0, none.commit(1));
        check.due("the queue stays", "22 31 -1", queueOf(none, 0));
        LockManager all = Setup.ran("b0;b1;b2;b3;b4;b5;b6;b7;x00;s10;s20;s30;s40;s50;s60;s70");
        check.due("all seven", 7, all.commit(0));
        check.due("the queue is empty", "-1", queueOf(all, 0));
    }

    @Sentence(of = "Section 3", says = SERVED)
    static void section3ServedForEachResourceFrom0To9(Check check) {
        LockManager m = Setup.ran("b0;b1;b2;b3;x00;x05;x09;s10;s25;s39");
        check.due("three queues", 3, m.commit(0));
        check.due("at 0", "-1", queueOf(m, 0));
        check.due("at 5", "-1", queueOf(m, 5));
        check.due("at 9", "-1", queueOf(m, 9));
        check.due("locks at 0, 5 and 9", "1 1 1", m.held(1, 0) + " " + m.held(2, 5) + " " + m.held(3, 9));
    }

    @Sentence(of = "Section 3", says = SERVED)
    static void section3ServedAtAnEndAnAbortAndAWithdrawal(Check check) {
        String waiting = "b0;b1;b2;b3;b4;x00;x11;s41;x10;s20;s31";
        LockManager committed = Setup.ran(waiting);
        check.due("a commit", 1, committed.commit(0));
        check.due("serves", EXCLUSIVE, committed.held(1, 0));
        LockManager rolledBack = Setup.ran(waiting);
        check.due("a rollBack of a waiting one", 2, rolledBack.rollBack(1));
        check.due("serves the queue of its lock", 0b11000, rolledBack.holders(1));
        LockManager withdrawn = Setup.ran(waiting);
        check.due("a withdrawal", 0, withdrawn.withdraw(2));
        check.due("the queue has one less", "12 -1", queueOf(withdrawn, 0));
        LockManager first = Setup.ran("b0;b1;b2;s00;x10;s20");
        check.due("a withdrawal of the first", 1, first.withdraw(1));
        check.due("serves", 0b101, first.holders(0));
        LockManager aborted = Setup.ran("b0;b1;b2;b3;w0,9;x00;x11;x19;s29;s39;x01;x10");
        check.due("an abort serves the queue of each lock", 0b1100, aborted.holders(9));
        check.due("and the one of the ring", EXCLUSIVE, aborted.held(0, 1));
    }

    private static String queueOf(LockManager m, int resource) {
        StringBuilder requests = new StringBuilder();
        for (int i = 0; i < m.queueLength(resource); i++) {
            requests.append(m.queued(resource, i)).append(' ');
        }
        return requests.append(m.queued(resource, m.queueLength(resource))).toString();
    }

    @Sentence(of = "Section 3", says = "A request can be granted if its mode is compatible with all locks of other "
            + "transactions on the resource.")
    static void section3GrantedIfCompatibleWithAllLocksOfOthers(Check check) {
        LockManager upgrade = Setup.ran("b0;b1;b2;s00;s10;s20;x00");
        check.due("an upgrade with one other lock left", 0, upgrade.commit(1));
        check.due("an upgrade with its own lock alone", 1, upgrade.commit(2));
        check.due("it holds exclusively", EXCLUSIVE, upgrade.held(0, 0));
        LockManager exclusive = Setup.ran("b0;b1;b2;s00;s10;x20");
        check.due("exclusive with one shared lock left", 0, exclusive.commit(0));
        check.due("exclusive with no lock left", 1, exclusive.commit(1));
        LockManager shared = Setup.ran("b0;b1;b2;b3;s00;x10;s20");
        check.due("shared with a shared lock left", 1, shared.withdraw(1));
        check.due("the holders", 0b101, shared.holders(0));
    }

    @Sentence(of = "Section 3", says = "Its transaction then holds a lock in the mode of the request, becomes ACTIVE, "
            + "and its work increases by 1.")
    static void section3AGrantFromTheQueue(Check check) {
        LockManager m = Setup.ran("b0;b1;b2;x00;w1,41;x10;s20");
        check.due("waiting is no work", 41, m.workOf(1));
        m.commit(0);
        check.due("the mode of the request", EXCLUSIVE, m.held(1, 0));
        check.due("active", LockManager.ACTIVE, m.state(1));
        check.due("its work", 42, m.workOf(1));
        check.due("the one that waits on has no work", 0, m.workOf(2));
        check.due("and no lock", 0, m.held(2, 0));
        check.due("and waits", LockManager.WAITING, m.state(2));
        m.commit(1);
        check.due("shared", SHARED, m.held(2, 0));
        check.due("its work from 0", 1, m.workOf(2));
    }
}
