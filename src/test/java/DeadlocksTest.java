/** Promises 3, 19, 20 and 24 to 27: waiting, rings, victims, and what would happen. */
public final class DeadlocksTest {
    private static final Check CHECK = new Check();
    private static final int SHARED = LockManager.SHARED;
    private static final int EXCLUSIVE = LockManager.EXCLUSIVE;
    private static final int GRANTED = LockManager.GRANTED;
    private static final int QUEUED = LockManager.QUEUED;
    private static final int ABORTED = LockManager.ABORTED;

    // 0 and 7 share the resource 0, and both wait for 5, which has more work.
    private static final String TWO_RINGS = "b5;b0;b7;s00;s70;x51;w5,9;x01;s71";

    public static void main(String[] args) {
        promise3GreatestBirthAmongEqualWork();
        promise3LeastWork();
        promise3VictimOfTheRingOnly();
        promise3StillQueuedAfterwards();
        promise3SeveralRings();
        promise3ShortestRing();
        promise3LowestOfTheShortestRings();
        promise3LowestAtTheThirdPlace();
        promise3RingThroughTheQueue();
        promise3TwoUpgrades();
        promise3Spared();
        promise3AllSpared();
        promise3VictimStaysActive();
        promise19WaitsFor();
        promise20Blockers();
        promises19And20Refused();
        promise24IfRequested();
        promise25VictimsOf();
        promises24And25ChangeNothing();
        promises24And25Refused();
        promises26And27Statistics();
        CHECK.end();
    }

    private static void asked(String what, LockManager m, int t, int r, int mode, int victims, int result) {
        CHECK.due(what + ": victimsOf", victims, m.victimsOf(t, r, mode));
        CHECK.due(what + ": ifRequested", result, m.ifRequested(t, r, mode));
        int broken = m.brokenRings();
        CHECK.due(what + ": request", result, m.request(t, r, mode));
        CHECK.due(what + ": brokenRings", broken + Integer.bitCount(victims), m.brokenRings());
    }

    private static void promise3GreatestBirthAmongEqualWork() {
        LockManager m = Setup.ran("b0;b1;x00;x11;x01");
        asked("equal work, asked by the younger", m, 1, 0, EXCLUSIVE, 0b10, ABORTED);
        CHECK.due("the elder gets the lock", EXCLUSIVE, m.held(0, 1));
        CHECK.due("the elder is active", LockManager.ACTIVE, m.state(0));
        LockManager n = Setup.ran("b1;b0;x00;x11;x01");
        asked("equal work, asked by the elder", n, 1, 0, EXCLUSIVE, 0b01, GRANTED);
    }

    private static void promise3LeastWork() {
        LockManager m = Setup.ran("b0;b1;x00;x11;x01;w1,1");
        asked("more work, asked by the younger", m, 1, 0, EXCLUSIVE, 0b01, GRANTED);
        CHECK.due("both locks are its own", 0b10, m.holders(0) & m.holders(1));
        CHECK.due("the victim has lost its work", 0, m.workOf(0));
        CHECK.due("the grant from the queue is work", 3, m.workOf(1));
    }

    private static void promise3VictimOfTheRingOnly() {
        // 2 waits too, with the least work and the greatest birth, but it is in no ring.
        LockManager m = Setup.ran("b0;b1;b2;w0,5;w1,6;x00;x11;x20;x01");
        asked("a waiting one beside the ring", m, 1, 0, EXCLUSIVE, 0b001, QUEUED);
        CHECK.due("the one ahead in the queue is served first", EXCLUSIVE, m.held(2, 0));
    }

    private static void promise3StillQueuedAfterwards() {
        LockManager m = Setup.ran("b0;b1;b2;w1,9;s00;s20;x11;s01");
        asked("another holder stays", m, 1, 0, EXCLUSIVE, 0b001, QUEUED);
        CHECK.due("it waits for that one", 0b100, m.waitsFor(1));
    }

    private static void promise3SeveralRings() {
        LockManager m = Setup.ran(TWO_RINGS);
        asked("two rings of two", m, 5, 0, EXCLUSIVE, 0b10000001, GRANTED);
        CHECK.due("the work of both is lost", 2, m.lostWork());
        LockManager three = Setup.ran("b0;b1;b2;b3;s00;s10;s20;x31;w3,1;s01;s11;s21");
        asked("three rings of two", three, 3, 0, EXCLUSIVE, 0b0111, GRANTED);
    }

    private static void promise3ShortestRing() {
        // 5 -> 7 -> 5 is shorter than 5 -> 0 -> 1 -> 5, and its victim is 5 itself.
        LockManager m = Setup.ran("b5;b0;b1;b7;w5,9;w7,99;s00;s70;x12;x51");
        Setup.run(m, "x02;x11;x71");
        asked("a shorter ring with a higher number", m, 5, 0, EXCLUSIVE, 0b100000, ABORTED);
    }

    private static void promise3LowestOfTheShortestRings() {
        LockManager m = Setup.ran("b5;b0;b7;s00;s70;x51;w0,99;w5,9;x01;s71");
        asked("the ring with 0 comes first", m, 5, 0, EXCLUSIVE, 0b100000, ABORTED);
        LockManager n = Setup.ran("b5;b0;b7;s00;s70;x51;w7,99;w5,9;x01;s71");
        asked("and now it has the victim 0", n, 5, 0, EXCLUSIVE, 0b100001, ABORTED);
    }

    private static void promise3LowestAtTheThirdPlace() {
        // The rings are 0 -> 3 -> 2 -> 0 and 0 -> 3 -> 4 -> 0.
        LockManager m = Setup.ran("b0;b2;b3;b4;w0,50;w3,60;w2,70;x00;x31;s22;s42");
        Setup.run(m, "x32;x20;x40");
        asked("the lower number at the third place", m, 0, 1, SHARED, 0b00001, ABORTED);
        LockManager n = Setup.ran("b0;b2;b3;b4;w0,50;w3,60;w4,70;x00;x31;s22;s42");
        Setup.run(n, "x32;x20;x40");
        asked("the same with the victim there", n, 0, 1, SHARED, 0b00101, ABORTED);
    }

    private static void promise3RingThroughTheQueue() {
        LockManager m = Setup.ran("b0;b1;b2;w0,5;w1,3;w2,5;s00;x21;x10;s20");
        CHECK.due("2 waits for the request of 1 alone", 0b010, m.waitsFor(2));
        asked("0 -> 2 -> 1 -> 0", m, 0, 1, SHARED, 0b010, QUEUED);
        CHECK.due("2 has come to its lock", SHARED, m.held(2, 0));
        CHECK.due("0 waits for it", 0b100, m.waitsFor(0));
        LockManager n = Setup.ran("b0;b1;b2;w0,5;w1,3;w2,5;s00;x21;s10;s20");
        asked("shared requests do not wait for one another", n, 0, 1, SHARED, 0, QUEUED);
    }

    private static void promise3TwoUpgrades() {
        LockManager m = Setup.ran("b0;b1;s00;s10;w0,1;x10");
        asked("the second upgrade of two", m, 0, 0, EXCLUSIVE, 0b10, GRANTED);
        LockManager n = Setup.ran("b0;b1;b2;s00;s10;w0,1;x20;x00");
        asked("the younger one is the victim", n, 1, 0, EXCLUSIVE, 0b10, ABORTED);
        CHECK.due("the upgrade passes the queue", EXCLUSIVE, n.held(0, 0));
        CHECK.due("the request in the queue stays", 22, n.queued(0, 0));
    }

    /** 1 has been aborted twice, both times by 0, which keeps the locks 0 and 1. */
    private static LockManager abortedTwice() {
        LockManager m = Setup.ran("b0;b1;x00;x11;x01;x10");
        CHECK.due("aborted once", 1, m.abortsOf(1));
        Setup.run(m, "x12;x02;x10");
        CHECK.due("aborted twice", 2, m.abortsOf(1));
        return m;
    }

    private static void promise3Spared() {
        LockManager once = Setup.ran("b0;b1;x00;x11;x01;x10;x12;x02");
        asked("one abort spares nobody", once, 1, 0, SHARED, 0b10, ABORTED);
        LockManager lower = Setup.ran("b1;b0;x10;x01;x11;x00;x02;x12");
        asked("nor does it spare the lower number", lower, 0, 0, SHARED, 0b01, ABORTED);
        LockManager twice = abortedTwice();
        Setup.run(twice, "x13;w0,1000;x03");
        asked("two aborts spare", twice, 1, 0, SHARED, 0b01, GRANTED);
        CHECK.due("the work that is lost", 1 + 1 + 1003, twice.lostWork());
        CHECK.due("the other one's aborts", 1, twice.abortsOf(0));
    }

    private static void promise3AllSpared() {
        LockManager least = bothSpared();
        Setup.run(least, "x05;x16;w1,1;x06");
        asked("all are spared: the least work", least, 1, 5, EXCLUSIVE, 0b01, GRANTED);
        CHECK.due("a third abort", 3, least.abortsOf(0));
        LockManager equal = bothSpared();
        Setup.run(equal, "x05;x16;x06");
        asked("all are spared, equal work: the greatest birth", equal, 1, 5, EXCLUSIVE, 0b10, ABORTED);
        CHECK.due("a third abort of the other", 3, equal.abortsOf(1));
    }

    /** 0 and 1 have been aborted twice each and have done the same work. */
    private static LockManager bothSpared() {
        LockManager m = abortedTwice();
        Setup.run(m, "x13;x03;x10");
        Setup.run(m, "x04;x14;x03");
        CHECK.due("two aborts of 0", 2, m.abortsOf(0));
        CHECK.due("two aborts of 1", 2, m.abortsOf(1));
        m.work(0, m.workOf(1) - m.workOf(0));
        CHECK.due("equal work", m.workOf(1), m.workOf(0));
        return m;
    }

    private static void promise3VictimStaysActive() {
        LockManager m = Setup.ran("b0;b1;b2;x00;s03;w0,8;x11;x01;x23");
        m.request(1, 0, EXCLUSIVE);
        CHECK.due("the victim is active", LockManager.ACTIVE, m.state(1));
        CHECK.due("its work is 0", 0, m.workOf(1));
        CHECK.due("its abort is counted", 1, m.abortsOf(1));
        CHECK.due("it keeps its birth", 1, m.birthOf(1));
        CHECK.due("it holds nothing", 0, m.held(1, 1));
        CHECK.due("it awaits nothing", LockManager.NONE, m.awaited(1));
        CHECK.due("its request is gone", 0, m.queueLength(0));
        CHECK.due("it may ask again", QUEUED, m.request(1, 1, SHARED));
    }

    private static void promise19WaitsFor() {
        LockManager m = Setup.ran("b0;b1;b2;b3;b4;b5;s00;s10;s20;x30;s40;s50");
        CHECK.due("an exclusive request waits for all holders", 0b000111, m.waitsFor(3));
        CHECK.due("a shared one for the exclusive one ahead", 0b001000, m.waitsFor(4));
        CHECK.due("and not for the shared one ahead", 0b001000, m.waitsFor(5));
        CHECK.due("an active one waits for nobody", 0, m.waitsFor(0));
        CHECK.due("an idle one waits for nobody", 0, m.waitsFor(7));
        m.request(1, 0, EXCLUSIVE);
        CHECK.due("an upgrade waits for the other holders", 0b000101, m.waitsFor(1));
        CHECK.due("those behind it wait for it too", 0b001010, m.waitsFor(4));
        LockManager n = Setup.ran("b0;b1;b2;b3;x00;s10;s20;x30");
        CHECK.due("shared behind shared waits for the holder", 0b0001, n.waitsFor(2));
        CHECK.due("exclusive waits for the shared ones ahead", 0b0111, n.waitsFor(3));
        n.request(0, 1, EXCLUSIVE);
        CHECK.due("other resources do not count", 0b0001, n.waitsFor(1));
    }

    private static void promise20Blockers() {
        LockManager m = Setup.ran("b0;b1;b2;b3;b4;x00;x11;x22;x33;x10;x21;x32;x43");
        CHECK.due("blockers of the first", 0, m.blockers(0));
        CHECK.due("blockers of the second", 1, m.blockers(1));
        CHECK.due("blockers of the third", 2, m.blockers(2));
        CHECK.due("blockers of the last", 4, m.blockers(4));
        CHECK.due("blockers of an idle one", 0, m.blockers(7));
        LockManager n = Setup.ran("b7;b6;b5;b4;b3;b2;b1;b0;x77;x66;x55;x44;x33;x22");
        Setup.run(n, "x11;x67;x56;x45;x34;x23;x12;x01");
        CHECK.due("a chain of all, upwards", 7, n.blockers(0));
        LockManager fork = Setup.ran("b0;b1;b2;b3;s00;s10;x30;x22;x02");
        CHECK.due("each one counts once", 3, fork.blockers(3));
    }

    private static void promises19And20Refused() {
        for (int t : new int[] {-1, 8, Integer.MAX_VALUE, Integer.MIN_VALUE}) {
            LockManager m = Setup.begun(1);
            CHECK.refused("waitsFor(" + t + ")", m, IndexOutOfBoundsException.class, () -> m.waitsFor(t));
            LockManager n = Setup.begun(1);
            CHECK.refused("blockers(" + t + ")", n, IndexOutOfBoundsException.class, () -> n.blockers(t));
        }
    }

    private static void promise24IfRequested() {
        LockManager m = Setup.ran("b0;b1;b2;x00;x11;s22;x20");
        CHECK.due("a free one", GRANTED, m.ifRequested(0, 3, EXCLUSIVE));
        CHECK.due("one that it holds", GRANTED, m.ifRequested(0, 0, SHARED));
        CHECK.due("one that another holds", QUEUED, m.ifRequested(1, 0, SHARED));
        CHECK.due("a ring with the other as the victim", GRANTED, m.ifRequested(0, 2, EXCLUSIVE));
        CHECK.due("a waiting one", LockManager.NONE, m.ifRequested(2, 3, SHARED));
        CHECK.due("an idle one", LockManager.NONE, m.ifRequested(7, 3, SHARED));
        LockManager n = Setup.ran("b0;b2;x00;w2,1;s22;x20");
        CHECK.due("a ring with it as the victim", ABORTED, n.ifRequested(0, 2, EXCLUSIVE));
    }

    private static void promise25VictimsOf() {
        LockManager m = Setup.ran("b0;b1;b2;x00;x11;s22;x20");
        CHECK.due("a free one", 0, m.victimsOf(0, 3, EXCLUSIVE));
        CHECK.due("one that another holds", 0, m.victimsOf(1, 0, SHARED));
        CHECK.due("a compatible one", 0, m.victimsOf(0, 2, SHARED));
        CHECK.due("a ring", 0b100, m.victimsOf(0, 2, EXCLUSIVE));
        CHECK.due("a waiting one", 0, m.victimsOf(2, 1, EXCLUSIVE));
        CHECK.due("an idle one", 0, m.victimsOf(7, 0, EXCLUSIVE));
    }

    private static void promises24And25ChangeNothing() {
        LockManager m = Setup.ran(TWO_RINGS);
        String before = Snapshot.of(m);
        m.ifRequested(5, 0, EXCLUSIVE);
        m.victimsOf(5, 0, EXCLUSIVE);
        m.ifRequested(5, 8, EXCLUSIVE);
        CHECK.due("questions change nothing", before, Snapshot.of(m));
    }

    private static void promises24And25Refused() {
        int[][] calls = {{-1, 0, 1, 0}, {8, 0, 1, 0}, {0, -1, 1, 0}, {0, 10, 1, 0}, {8, 10, 3, 0}, {7, 10, 0, 0},
            {0, 0, 0, 1}, {0, 0, 3, 1}, {0, 0, -1, 1}, {7, 0, 3, 1}};
        for (int[] c : calls) {
            Class<? extends RuntimeException> due =
                    c[3] == 0 ? IndexOutOfBoundsException.class : IllegalArgumentException.class;
            String arguments = "(" + c[0] + ", " + c[1] + ", " + c[2] + ")";
            LockManager m = Setup.begun(1);
            CHECK.refused("ifRequested" + arguments, m, due, () -> m.ifRequested(c[0], c[1], c[2]));
            LockManager n = Setup.begun(1);
            CHECK.refused("victimsOf" + arguments, n, due, () -> n.victimsOf(c[0], c[1], c[2]));
        }
    }

    private static void promises26And27Statistics() {
        LockManager m = Setup.ran("b0;b1;w0,1000;w1,500;x00;x11;x01");
        CHECK.due("no rings yet", 0, m.brokenRings());
        m.request(1, 0, EXCLUSIVE);
        CHECK.due("one ring", 1, m.brokenRings());
        CHECK.due("the work of the victim", 501, m.lostWork());
        Setup.run(m, "w1,7;x12;x02;x10");
        CHECK.due("two rings", 2, m.brokenRings());
        CHECK.due("the work of both victims", 509, m.lostWork());
        m.rollBack(0);
        m.commit(1);
        CHECK.due("ends break no rings", 2, m.brokenRings());
        CHECK.due("ends lose no work", 509, m.lostWork());
    }
}
