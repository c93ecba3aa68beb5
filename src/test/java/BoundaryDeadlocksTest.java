/** The boundary cases that the document names in the sections 4 and 5. */
public final class BoundaryDeadlocksTest {
    private static final int SHARED = LockManager.SHARED;
    private static final int EXCLUSIVE = LockManager.EXCLUSIVE;
    private static final int GRANTED = LockManager.GRANTED;
    private static final int QUEUED = LockManager.QUEUED;
    private static final int ABORTED = LockManager.ABORTED;

    public static void main(String[] args) {
        Sentences.testAllOf(BoundaryDeadlocksTest.class);
    }

    /** Asks for what would happen, and then for what happens. */
    private static void asked(Check check, String what, LockManager m, String request, int victims, int result) {
        int t = request.charAt(1) - '0';
        int r = request.charAt(2) - '0';
        int mode = request.charAt(0) == 's' ? SHARED : EXCLUSIVE;
        int broken = m.brokenRings();
        check.due(what + ": victimsOf", victims, m.victimsOf(t, r, mode));
        check.due(what + ": ifRequested", result, m.ifRequested(t, r, mode));
        check.due(what + ": request", result, m.request(t, r, mode));
        check.due(what + ": brokenRings", broken + Integer.bitCount(victims), m.brokenRings());
    }

    // ---- 4. DEADLOCKS

    private static final String WAITS_FOR = "A WAITING transaction T, whose request for a mode is in the queue of a "
            + "resource, waits for another transaction U if U holds a lock on this resource that is not compatible "
            + "with this mode, or if U has a request in the same queue ahead of that of T and at least one of the "
            + "two requests is for the mode EXCLUSIVE.";

    @Sentence(of = "Section 4", says = WAITS_FOR)
    static void section4WaitsForLocksThatAreNotCompatible(Check check) {
        LockManager m = Setup.ran("b0;b1;b2;b7;s00;s70;x11;s21");
        check.due("shared for exclusive", 0b00000010, m.waitsFor(2));
        m.request(1, 0, EXCLUSIVE);
        check.due("exclusive for every shared one", 0b10000001, m.waitsFor(1));
        LockManager exclusive = Setup.ran("b0;b1;x00;x10");
        check.due("exclusive for exclusive", 0b01, exclusive.waitsFor(1));
        LockManager upgrade = Setup.ran("b0;b1;s00;s10;x10");
        check.due("an upgrade not for its own lock", 0b01, upgrade.waitsFor(1));
        LockManager elsewhere = Setup.ran("b0;b1;b2;x00;x21;x10");
        check.due("not for a lock on another resource", 0b001, elsewhere.waitsFor(1));
        check.due("an active one for nobody", 0, elsewhere.waitsFor(0));
    }

    @Sentence(of = "Section 4", says = WAITS_FOR)
    static void section4WaitsForExclusiveOnesAheadInTheQueue(Check check) {
        LockManager m = Setup.ran("b0;b1;b2;b3;b4;b5;s00;x10;s20;s30;x40;s50");
        check.due("the first one for none in the queue", 0b000001, m.waitsFor(1));
        check.due("shared for exclusive", 0b000010, m.waitsFor(2));
        check.due("shared not for shared", 0b000010, m.waitsFor(3));
        check.due("exclusive for all ahead", 0b001111, m.waitsFor(4));
        check.due("shared for both exclusive ones", 0b010010, m.waitsFor(5));
        LockManager other = Setup.ran("b0;b1;b2;b3;x00;x01;x10;x21;x31");
        check.due("not for one in another queue", 0b0101, other.waitsFor(3));
    }

    @Sentence(of = "Section 4", says = WAITS_FOR)
    static void section4WaitsForThoseAheadInWhateverOrderAtEachResource(Check check) {
        int[] order = {7, 5, 6, 1, 3, 2};
        int[] modes = {EXCLUSIVE, SHARED, SHARED, EXCLUSIVE, SHARED, EXCLUSIVE};
        int[] due = {0b00000001, 0b10000001, 0b10000001, 0b11100001, 0b10000011, 0b11101011};
        for (int r = 0; r < 10; r++) {
            LockManager m = Setup.begun(8);
            m.request(0, r, EXCLUSIVE);
            for (int i = 0; i < order.length; i++) {
                m.request(order[i], r, modes[i]);
            }
            for (int i = 0; i < order.length; i++) {
                check.due("waitsFor(" + order[i] + ") at " + r, due[i], m.waitsFor(order[i]));
            }
        }
    }

    private static final String RING = "A ring of T is a sequence of different transactions that begins with T, in "
            + "which each transaction waits for the next one, and the last one waits for T.";

    @Sentence(of = "Section 4", says = RING)
    static void section4TheSmallestRingHasTwo(Check check) {
        asked(check, "a chain of two", Setup.ran("b0;b7;x00"), "x70", 0, QUEUED);
        asked(check, "a ring of two", Setup.ran("b0;b7;x00;x77;x07"), "x70", 0b10000000, ABORTED);
        asked(check, "two upgrades", Setup.ran("b0;b7;s00;s70;x00"), "x70", 0b10000000, ABORTED);
        asked(check, "its own lock makes no ring", Setup.ran("b0;b7;s00;s70"), "x70", 0, QUEUED);
    }

    @Sentence(of = "Section 4", says = RING)
    static void section4TheGreatestRingHasEight(Check check) {
        asked(check, "a chain of eight", chainOfSeven(7), "x67", 0, QUEUED);
        for (int victim = 0; victim < 8; victim++) {
            LockManager m = chainOfSeven(victim);
            Setup.run(m, "x67");
            int result = victim == 0 ? GRANTED : victim == 7 ? ABORTED : QUEUED;
            asked(check, "a ring of eight, the least work at " + victim, m, "x70", 1 << victim, result);
        }
    }

    /** Each transaction holds one resource, and 0 to 5 wait for the next one; one of them has less work. */
    private static LockManager chainOfSeven(int lessWork) {
        LockManager m = Setup.begun(8);
        for (int t = 0; t < 8; t++) {
            m.request(t, t, EXCLUSIVE);
            m.work(t, t == lessWork ? 4 : 5);
        }
        for (int t = 0; t < 6; t++) {
            m.request(t, t + 1, EXCLUSIVE);
        }
        return m;
    }

    @Sentence(of = "Section 4", says = RING)
    static void section4ARingOverEachOneOfThoseThatWait(Check check) {
        // 0, 2 and 7 wait for 5, but 1 waits for one of them alone, and 5 comes to wait for 1.
        for (int next : new int[] {0, 2, 7}) {
            LockManager m = Setup.ran("b5;b0;b1;b2;b7;w5,9;w0,9;w2,9;w7,9;x51;x10");
            m.request(next, 2, EXCLUSIVE);
            Setup.run(m, "s01;s21;s71;x12");
            asked(check, "5, 1, " + next, m, "x50", 0b10, GRANTED);
            check.due("1 waits for nobody", 0, m.waitsFor(1));
        }
    }

    private static final String EXAMINED = "The ring that is examined is the shortest one; among several shortest "
            + "rings it is the one that comes first if the sequences are compared number by number, a lower number "
            + "being first.";

    @Sentence(of = "Section 4", says = EXAMINED)
    static void section4TheShortestRingIsExamined(Check check) {
        // 5, 7 is shorter than 5, 0, 1, in which 5 would not be the victim.
        LockManager m = Setup.ran("b5;b0;b1;b7;w5,9;w7,99;s00;s70;x12;x51");
        Setup.run(m, "x02;x11;x71");
        asked(check, "two before three", m, "x50", 0b100000, ABORTED);
        // 5, 0 is shorter than 5, 7, 1.
        LockManager low = Setup.ran("b5;b0;b1;b7;w5,9;w0,99;s00;s70;x12;x51");
        Setup.run(low, "x72;x11;x01");
        asked(check, "two before three, with the lower number", low, "x50", 0b100000, ABORTED);
        // 5, 6, 7 is shorter than 5, 0, 1, 2.
        LockManager three = Setup.ran("b5;b0;b1;b2;b6;b7;w5,9;w6,99;w7,99;s00;s60;x12;x23;x74;x51");
        Setup.run(three, "x02;x13;s21;x64;s71");
        asked(check, "three before four", three, "x50", 0b100000, ABORTED);
    }

    @Sentence(of = "Section 4", says = EXAMINED)
    static void section4TheLowerNumberAtTheSecondPlace(Check check) {
        LockManager m = Setup.ran("b5;b6;b7;s60;s70;x51;w6,99;w5,9;x61;s71");
        asked(check, "5, 6 before 5, 7", m, "x50", 0b00100000, ABORTED);
        LockManager n = Setup.ran("b5;b6;b7;s60;s70;x51;w7,99;w5,9;x61;s71");
        asked(check, "5, 6 first, then 5, 7", n, "x50", 0b01100000, ABORTED);
        LockManager low = Setup.ran("b7;b0;b1;s00;s10;x71;w0,99;w7,9;x01;s11");
        asked(check, "7, 0 before 7, 1", low, "x70", 0b10000000, ABORTED);
    }

    @Sentence(of = "Section 4", says = EXAMINED)
    static void section4TheLowerNumberAtTheThirdPlace(Check check) {
        LockManager m = Setup.ran("b0;b6;b3;b7;w0,50;w3,60;w6,70;x00;x31;s62;s72");
        Setup.run(m, "x32;x60;x70");
        asked(check, "0, 3, 6 before 0, 3, 7", m, "s01", 0b00000001, ABORTED);
        LockManager n = Setup.ran("b0;b6;b3;b7;w0,50;w3,60;w7,70;x00;x31;s62;s72");
        Setup.run(n, "x32;x60;x70");
        asked(check, "0, 3, 6 first, then 0, 3, 7", n, "s01", 0b01000001, ABORTED);
    }

    @Sentence(of = "Section 4", says = EXAMINED)
    static void section4AShorterWayThatLeadsNowhereIsNoRing(Check check) {
        // 7 waits for 6 and for 1, but only 6, 5, 4 leads back to 7: 1 waits for 0, which is active.
        LockManager m = Setup.ran("b0;b1;b4;b5;b6;b7;w4,9;w6,9;w7,9;x00;s11;s61;x77;x44;x55");
        Setup.run(m, "x47;x54;x65;x10");
        asked(check, "7, 6, 5, 4 beside 7, 1, 0", m, "x71", 0b00100000, QUEUED);
        // The same with the way out at the third place, where 6 waits for 5 and for 1.
        LockManager third = Setup.ran("b0;b1;b4;b5;b6;b7;w4,9;w6,9;w7,9;x00;s11;s51;x77;x44;x66");
        Setup.run(third, "x47;x54;x61;x10");
        asked(check, "7, 6, 5, 4 beside 7, 6, 1, 0", third, "x76", 0b00100000, QUEUED);
    }

    private static final String REPEATED = "After the request of T has been put into a queue, the following is "
            + "repeated as long as T is WAITING and there is a ring of T: the victim of the ring that is examined is "
            + "aborted, and then the queues are served.";

    @Sentence(of = "Section 4", says = REPEATED)
    static void section4RepeatedFromNoTimeToSeven(Check check) {
        for (int waiting = 0; waiting <= 7; waiting++) {
            LockManager m = Setup.ran("b7;b0;b1;b2;b3;b4;b5;b6;w7,50;s00;s10;s20;s30;s40;s50;s60;x71");
            for (int t = 0; t < waiting; t++) {
                m.request(t, 1, SHARED);
            }
            int victims = (1 << waiting) - 1;
            asked(check, waiting + " rings", m, "x70", victims, waiting == 7 ? GRANTED : QUEUED);
            check.due("the holders that did not wait", 127 & ~victims | (waiting == 7 ? 128 : 0), m.holders(0));
            check.due("the others' requests are gone", 0, m.queueLength(1));
        }
    }

    @Sentence(of = "Section 4", says = REPEATED)
    static void section4EndsWhenTheRequestWaitsNoLonger(Check check) {
        LockManager aborted = Setup.ran("b7;b0;b1;s00;s10;x71;w0,9;w1,9;s01;s11");
        asked(check, "the first of two rings aborts it", aborted, "x70", 0b10000000, ABORTED);
        check.due("both have come to their locks", 0b11, aborted.holders(1));
        check.due("with all their work", "11 11", aborted.workOf(0) + " " + aborted.workOf(1));
        LockManager granted = Setup.ran("b7;b0;w7,9;s00;x71;s01");
        asked(check, "the only ring lets it pass", granted, "x70", 0b1, GRANTED);
        check.due("its grant is work", 11, granted.workOf(7));
    }

    @Sentence(of = "Section 4", says = REPEATED)
    static void section4TheQueuesAreServedAfterEachAbort(Check check) {
        // 3 comes to the resource 2 when 0 is aborted, and so it has more work than 1 has.
        LockManager m = Setup.ran("b0;b1;b2;b3;w1,1;w2,50;s00;x02;s10;x21");
        Setup.run(m, "s32;s01;s11");
        asked(check, "two rings of two", m, "x20", 0b0011, GRANTED);
        check.due("the queue of 2 was served", "1 1", m.held(3, 2) + " " + m.workOf(3));
        // 4 gets the lock for which 1 waits, so the second ring leads over 4.
        LockManager other = Setup.ran("b0;b1;b4;b2;w2,50;w1,50;s00;x03;s10;x21;w4,9");
        Setup.run(other, "x43;s13;s01");
        asked(check, "the queue of 3 was served before", other, "x20", 0b0001, QUEUED);
        check.due("4 has it now", EXCLUSIVE, other.held(4, 3));
        check.due("1 waits for 4", 0b10000, other.waitsFor(1));
    }

    // 0 has much work and holds the resource 0; each line lets 0 and one other make a ring.
    private static final String BASE = "b0;b1;b2;w0,1000;x00";
    private static final String ABORT_1_ONCE = "x11;x10;x01";
    private static final String ABORT_1_TWICE = "x12;x10;x02";
    private static final String ABORT_2_TWICE = "x23;x20;x03;x24;x20;x04";
    private static final String ABORT_1_BY_2 = "x25;w2,100;x16;x15;x26";

    /** The same with other numbers: 7 in place of 0, 6 in place of 1, 5 in place of 2. */
    private static String mirrored(String text) {
        StringBuilder other = new StringBuilder();
        for (String command : text.split(";")) {
            char transaction = (char) ('0' + '7' - command.charAt(1));
            other.append(command.charAt(0)).append(transaction).append(command.substring(2)).append(';');
        }
        return other.substring(0, other.length() - 1);
    }

    private static LockManager ranAll(String... texts) {
        LockManager m = new LockManager();
        for (String text : texts) {
            Setup.run(m, text);
        }
        return m;
    }

    private static LockManager ranAllMirrored(String... texts) {
        String[] others = new String[texts.length];
        for (int i = 0; i < texts.length; i++) {
            others[i] = mirrored(texts[i]);
        }
        return ranAll(others);
    }

    private static final String[][] ABORTS_OF_1 = {{BASE}, {BASE, ABORT_1_ONCE}, {BASE, ABORT_1_ONCE, ABORT_1_TWICE},
        {BASE, ABORT_1_ONCE, ABORT_1_TWICE, ABORT_2_TWICE, ABORT_1_BY_2}};

    @Sentence(of = "Section 4", says = "A transaction is spared if its abort count is 2 or more.")
    static void section4SparedFromTwoAbortsOn(Check check) {
        for (int aborts = 0; aborts < ABORTS_OF_1.length; aborts++) {
            boolean spared = aborts >= 2;
            LockManager m = ranAll(ABORTS_OF_1[aborts]);
            check.due("abortsOf(1)", aborts, m.abortsOf(1));
            Setup.run(m, "x17;x10");
            asked(check, aborts + " aborts", m, "x07", spared ? 0b01 : 0b10, spared ? ABORTED : GRANTED);
            check.due("abortsOf(1) afterwards", spared ? aborts : aborts + 1, m.abortsOf(1));
            LockManager other = ranAllMirrored(ABORTS_OF_1[aborts]);
            check.due("abortsOf(6)", aborts, other.abortsOf(6));
            Setup.run(other, "x67;x60");
            asked(check, aborts + " aborts of the lower number", other, "x77", spared ? 0b10000000 : 0b01000000,
                    spared ? ABORTED : GRANTED);
        }
    }

    private static final String CHOSEN = "The victim is chosen among the transactions of the ring that are not "
            + "spared, or among all of them if all are spared.";

    @Sentence(of = "Section 4", says = CHOSEN)
    static void section4ChosenAmongThoseThatAreNotSpared(Check check) {
        String one = "x17;x28;x18;x20";
        LockManager first = ranAll(BASE, ABORT_1_ONCE, ABORT_1_TWICE, ABORT_2_TWICE, one);
        asked(check, "the first of three is not spared", first, "x07", 0b001, ABORTED);
        LockManager last = ranAllMirrored(BASE, ABORT_1_ONCE, ABORT_1_TWICE, ABORT_2_TWICE, one);
        asked(check, "the last of three is not spared", last, "x77", 0b10000000, ABORTED);
        String two = "w2,5;x17;x28;x18;x20";
        LockManager second = ranAll(BASE, ABORT_1_ONCE, ABORT_1_TWICE, two);
        asked(check, "the second of three is spared", second, "x07", 0b100, QUEUED);
        LockManager middle = ranAllMirrored(BASE, ABORT_1_ONCE, ABORT_1_TWICE, two);
        asked(check, "the second of three is spared, with other numbers", middle, "x77", 0b00100000, QUEUED);
    }

    @Sentence(of = "Section 4", says = CHOSEN)
    static void section4ChosenAmongAllIfAllAreSpared(Check check) {
        String[] spared = {BASE, ABORT_1_ONCE, ABORT_1_TWICE, ABORT_2_TWICE};
        LockManager m = ranAll(spared);
        Setup.run(m, "x25;x16;w2,1;x15");
        asked(check, "all are spared", m, "x26", 0b010, GRANTED);
        LockManager equal = ranAll(spared);
        Setup.run(equal, "x25;x16;x15");
        asked(check, "all are spared, with the same work", equal, "x26", 0b100, ABORTED);
        LockManager other = ranAllMirrored(spared);
        Setup.run(other, "x55;x66;w5,1;x65");
        asked(check, "all are spared, with other numbers", other, "x56", 0b01000000, GRANTED);
    }

    private static final String LEAST = "It is the one with the least work; among several with the same work it is "
            + "the one with the greatest birth number.";

    @Sentence(of = "Section 4", says = LEAST)
    static void section4TheLeastWorkByOne(Check check) {
        asked(check, "one less", Setup.ran("b0;b7;w0,4;w7,5;x00;x77;x70"), "x07", 0b00000001, ABORTED);
        asked(check, "one more", Setup.ran("b0;b7;w0,6;w7,5;x00;x77;x70"), "x07", 0b10000000, GRANTED);
        asked(check, "much more", Setup.ran("b0;b7;w0,1000;x00;x77;x70"), "x07", 0b10000000, GRANTED);
        asked(check, "no work", Setup.ran("b0;b1;b2;w0,5;w2,5;s00;x21;x10;s20"), "s01", 0b010, QUEUED);
    }

    @Sentence(of = "Section 4", says = LEAST)
    static void section4TheGreatestBirthOfTheSameWork(Check check) {
        asked(check, "7 is younger", Setup.ran("b0;b7;w0,5;w7,5;x00;x77;x70"), "x07", 0b10000000, GRANTED);
        asked(check, "0 is younger", Setup.ran("b7;b0;w0,5;w7,5;x00;x77;x70"), "x07", 0b00000001, ABORTED);
        LockManager again = Setup.ran("b0;b7;a0;b0;x00;x77;x70");
        asked(check, "0 is younger, as it began again", again, "x07", 0b00000001, ABORTED);
        LockManager three = Setup.ran("b0;b1;b2;w0,5;w1,4;w2,4;x00;x11;x22;x10;x21");
        asked(check, "two of three with the same work", three, "x02", 0b100, GRANTED);
    }

    private static final String ABORT = "To abort a victim means: its request is removed from its queue, all its locks "
            + "are released, its work becomes 0, its abort count increases by 1, and it becomes ACTIVE.";

    @Sentence(of = "Section 4", says = ABORT)
    static void section4AnAbortTakesAllFromTheVictim(Check check) {
        LockManager m = Setup.ran("b0;b1;w0,1000;x00;x11;x12;x13;x14;x15;x16;x17;x18;s19;x10");
        asked(check, "a victim with nine locks", m, "x01", 0b10, GRANTED);
        for (int r = 1; r < 10; r++) {
            check.due("held(1, " + r + ")", 0, m.held(1, r));
        }
        check.due("locksHeld", 2, m.locksHeld());
        check.due("its queue", 0, m.queueLength(0));
        check.due("it awaits nothing", LockManager.NONE, m.awaited(1));
        check.due("its work", 0, m.workOf(1));
        check.due("its aborts", 1, m.abortsOf(1));
        check.due("its state", LockManager.ACTIVE, m.state(1));
        check.due("the other's aborts", 0, m.abortsOf(0));
    }

    @Sentence(of = "Section 4", says = ABORT)
    static void section4AnAbortAtTheHeadInTheMiddleAndAtTheEndOfAQueue(Check check) {
        for (String queue : new String[] {"x00;s10;s20;s30", "s10;s20;x00;s30", "s10;s20;s30;x00"}) {
            LockManager m = Setup.ran("b4;b0;b1;b2;b3;w4,50;x40;x02");
            Setup.run(m, queue);
            asked(check, "the queue " + queue, m, "x42", 0b00001, GRANTED);
            int[] left = {11, 21, 31, LockManager.NONE};
            for (int i = 0; i < left.length; i++) {
                check.due("queued(0, " + i + ") of " + queue, left[i], m.queued(0, i));
            }
        }
    }

    @Sentence(of = "Section 4", says = "(It keeps its birth number.)")
    static void section4AVictimKeepsItsBirth(Check check) {
        LockManager m = ranAll("b7;b0;b1;b2;w0,1000;x00", ABORT_1_ONCE);
        check.due("after one abort", 2, m.birthOf(1));
        Setup.run(m, ABORT_1_TWICE);
        check.due("after two aborts", 2, m.birthOf(1));
        check.due("the next birth number", 4, m.begin(3));
        LockManager first = Setup.ran("b1;b0;w0,1000;x00;x11;x10;x01");
        check.due("aborts of the first", 1, first.abortsOf(1));
        check.due("birth of the first", 0, first.birthOf(1));
    }

    // ---- 5. STATISTICS

    private static final String COUNTED = "The following is counted for the whole manager: the rings that were broken "
            + "(the victims), and the work that was lost (the sum of the work that the victims had done).";

    private static void counted(Check check, String what, LockManager m, int rings, int lost) {
        check.due(what + ": brokenRings", rings, m.brokenRings());
        check.due(what + ": lostWork", lost, m.lostWork());
    }

    @Sentence(of = "Section 5", says = COUNTED)
    static void section5CountedFromZeroOn(Check check) {
        counted(check, "a new one", new LockManager(), 0, 0);
        counted(check, "a chain without a ring", Setup.ran("b0;b1;x00;x11;x10"), 0, 0);
        counted(check, "a victim without work", Setup.ran("b0;b1;b2;w0,5;w2,5;s00;x21;x10;s20;s01"), 1, 0);
        counted(check, "a victim with the work 1", Setup.ran("b0;b1;x00;x11;x10;x01"), 1, 1);
        LockManager seven = Setup.ran("b7;b0;b1;b2;b3;b4;b5;b6;w7,50;s00;s10;s20;s30;s40;s50;s60;x71");
        Setup.run(seven, "s01;s11;s21;s31;s41;s51;s61;x70");
        counted(check, "seven victims", seven, 7, 7);
    }

    @Sentence(of = "Section 5", says = COUNTED)
    static void section5CountedForVictimsOnly(Check check) {
        LockManager m = ranAll(BASE, ABORT_1_ONCE, ABORT_1_TWICE);
        counted(check, "two victims", m, 2, 2);
        m.work(1, 30);
        m.request(1, 0, SHARED);
        m.withdraw(1);
        m.rollBack(1);
        m.commit(0);
        m.rollBack(2);
        counted(check, "a withdrawal, a commit and rollBacks", m, 2, 2);
    }
}
