import java.util.ArrayDeque;
import java.util.Deque;
import java.util.function.Supplier;
import java.util.function.ToIntFunction;

/** The boundary cases that the document names in the section 7 and in the promises 12 and 29. */
public final class BoundaryUndoTest {
    private static final int SHARED = LockManager.SHARED;
    private static final int EXCLUSIVE = LockManager.EXCLUSIVE;

    public static void main(String[] args) {
        Sentences.testAllOf(BoundaryUndoTest.class);
    }

    /**
     * After so many calls that save the state; the first one is begin and each other one adds 1 to
     * the work. So after each undo the work must be one less, and NONE (-1) when begin is undone.
     */
    private static LockManager saved(int calls) {
        LockManager m = new LockManager();
        for (int i = 0; i < calls; i++) {
            if (i == 0) {
                m.begin(0);
            } else {
                m.work(0, 1);
            }
        }
        return m;
    }

    // ---- 7. STATE, UNDO

    /** 0 waits for 1 and 2 for both; 1 was aborted once, and the history is not full. */
    private static LockManager tangled() {
        LockManager m = Setup.ran("b0;b1;b2;w0,50;w1,6;x00;x11;x10;x01");
        Setup.run(m, "x12;w1,8;s13;s03;x02;s22");
        return m;
    }

    private static LockManager tangledWith(String text) {
        LockManager m = tangled();
        Setup.append(m, text);
        return m;
    }

    @Sentence(of = "Section 7", says = "The state consists of everything in sections 1 to 5.")
    static void section7AllOfTheStateComesBack(Check check) {
        Undoable.in(check, BoundaryUndoTest::tangled, "begin", m -> m.begin(7));
        Undoable.in(check, BoundaryUndoTest::tangled, "a lock", m -> m.request(1, 9, SHARED));
        Undoable.in(check, BoundaryUndoTest::tangled, "work", m -> m.work(1, 1000));
        Undoable.in(check, BoundaryUndoTest::tangled, "a ring", m -> m.request(1, 0, EXCLUSIVE));
        Undoable.in(check, BoundaryUndoTest::tangled, "a withdrawal at the head", m -> m.withdraw(0));
        Undoable.in(check, BoundaryUndoTest::tangled, "a withdrawal at the end", m -> m.withdraw(2));
        Undoable.in(check, BoundaryUndoTest::tangled, "a commit", m -> m.commit(1));
        Undoable.in(check, BoundaryUndoTest::tangled, "a rollBack", m -> m.rollBack(0));
        Undoable.in(check, () -> tangledWith("k0;s02;k2;x21"), "other modes and resources", LockManager::runText);
        LockManager ring = tangled();
        int lost = ring.lostWork();
        ring.request(1, 0, EXCLUSIVE);
        check.due("a ring more", 2, ring.brokenRings());
        ring.undo();
        check.due("brokenRings after undo", 1, ring.brokenRings());
        check.due("lostWork after undo", lost, ring.lostWork());
    }

    @Sentence(of = "Section 7", says = "The state consists of everything in sections 1 to 5.")
    static void section7TheWholeQueueOfEachResourceComesBack(Check check) {
        for (int r = 0; r < 10; r++) {
            int resource = r;
            for (int mode = SHARED; mode <= EXCLUSIVE; mode++) {
                int first = mode;
                Supplier<LockManager> full = () -> fullQueue(resource, first);
                Undoable.in(check, full, "a rollBack with a queue of seven", m -> m.rollBack(0));
                Undoable.in(check, full, "a withdrawal at its head", m -> m.withdraw(1));
                Undoable.in(check, full, "a withdrawal at its end", m -> m.withdraw(7));
            }
        }
    }

    /** 0 holds the resource, and 1 to 7 wait for it, each second one for an exclusive lock. */
    private static LockManager fullQueue(int resource, int firstMode) {
        LockManager m = Setup.begun(8);
        m.request(0, resource, EXCLUSIVE);
        for (int t = 1; t < 8; t++) {
            m.request(t, resource, t % 2 == 1 ? firstMode : SHARED + EXCLUSIVE - firstMode);
        }
        return m;
    }

    @Sentence(of = "Section 7", says = "The state consists of everything in sections 1 to 5.")
    static void section7TheModeOfEachRequestComesBack(Check check) {
        for (int t = 0; t < 8; t++) {
            int other = (t + 1) % 8;
            String start = "b" + t + ";b" + other + ";x" + other + "4;";
            for (String[] modes : new String[][] {{"s", "x"}, {"x", "s"}}) {
                Supplier<LockManager> waiting = () -> {
                    LockManager m = Setup.ran(start + modes[0] + start.charAt(1) + "4");
                    Setup.append(m, "k" + start.charAt(1) + ";" + modes[1] + start.charAt(1) + "4");
                    return m;
                };
                Undoable.in(check, waiting, "another mode of " + t, LockManager::runText);
            }
        }
    }

    @Sentence(of = "Section 7", says = "The state consists of everything in sections 1 to 5.")
    static void section7TheNextBirthNumberComesBackToo(Check check) {
        LockManager m = Setup.begun(2);
        m.begin(2);
        m.undo();
        check.due("begin after undo of begin", 2, m.begin(5));
        m.undo();
        m.undo();
        m.undo();
        check.due("begin after undo of all", 0, m.begin(6));
    }

    @Sentence(of = "Section 7", says = "The text buffer and the saved states are not part of it.")
    static void section7TheTextStays(Check check) {
        LockManager grown = Setup.begun(1);
        Setup.append(grown, "b7");
        grown.undo();
        check.due("a text that has grown", 2, grown.textLength());
        check.due("runs", 1, grown.runText());
        LockManager emptied = new LockManager();
        Setup.append(emptied, "b7");
        emptied.runText();
        emptied.clearText();
        emptied.undo();
        check.due("a text that was emptied", 0, emptied.textLength());
        LockManager full = Scenes.crowded();
        full.runText();
        full.undo();
        check.due("a full text", 80, full.textLength());
        check.due("is valid still", LockManager.NONE, full.errorPosition());
    }

    @Sentence(of = "Section 7", says = "The text buffer and the saved states are not part of it.")
    static void section7TheSavedStatesDoNotComeBack(Check check) {
        LockManager m = saved(9);
        check.due("a full history", 8, m.savedStates());
        check.due("undo", 7, m.undo());
        check.due("one less, not the seven from before and the discarded one", 7, m.savedStates());
        for (int i = 6; i >= 0; i--) {
            check.due("undo", i, m.undo());
            check.due("workOf", i, m.workOf(0));
        }
        check.due("no more", Refused.STATE.getName(), Refused.answer(m, LockManager::undo));
    }

    private static final String SAVES = "A method that is marked \"Undoable\" saves the state as it was before the "
            + "call, unless the call throws an exception.";

    @Sentence(of = "Section 7", says = SAVES)
    static void section7EachUndoableMethodSavesOneState(Check check) {
        saves(check, "begin", 1, m -> m.begin(7));
        saves(check, "a granted request", 1, m -> m.request(1, 9, SHARED));
        saves(check, "a queued request", 1, m -> m.request(1, 0, SHARED));
        saves(check, "work", 1, m -> m.work(1, 1));
        saves(check, "withdraw", 1, m -> m.withdraw(0));
        saves(check, "commit", 1, m -> m.commit(1));
        saves(check, "rollBack", 1, m -> m.rollBack(2));
        saves(check, "runText", 1, LockManager::runText);
        saves(check, "appendText", 0, m -> m.appendText(';'));
        saves(check, "errorPosition", 0, LockManager::errorPosition);
        saves(check, "clearText", 0, LockManager::clearText);
        saves(check, "ifRequested", 0, m -> m.ifRequested(1, 9, SHARED));
        saves(check, "victimsOf", 0, m -> m.victimsOf(1, 0, EXCLUSIVE));
        saves(check, "all queries", 0, m -> Snapshot.of(m).length());
    }

    /** With two saved states before it, and with eight. */
    private static void saves(Check check, String what, int states, ToIntFunction<LockManager> call) {
        LockManager m = tangledWith("b6;w6,5;k2");
        check.due("savedStates before " + what, 2, m.savedStates());
        call.applyAsInt(m);
        check.due("savedStates after " + what, 2 + states, m.savedStates());
        LockManager full = tangled();
        for (int i = 0; i < 6; i++) {
            full.work(1, 1 + i);
        }
        Setup.append(full, "b6;w6,5;k2");
        check.due("savedStates before " + what, 8, full.savedStates());
        call.applyAsInt(full);
        check.due("savedStates after " + what, 8, full.savedStates());
        Traces.undone(full, 7);
        // The work before the six calls is the seventh state from the end only if one was saved behind them.
        check.due("workOf after seven undos of " + what, states == 1 ? 10 : 0, full.workOf(1));
    }

    @Sentence(of = "Section 7", says = SAVES)
    static void section7ARefusedCallSavesNothing(Check check) {
        Refused.in(check, Scenes::fresh, Refused.BOUNDS, "begin(8)", m -> m.begin(8));
        Refused.in(check, Scenes::fresh, Refused.STATE, "request", m -> m.request(0, 0, SHARED));
        Refused.in(check, Scenes::fresh, Refused.ARGUMENT, "work", m -> m.work(0, 0));
        Refused.in(check, Scenes::fresh, Refused.STATE, "withdraw", m -> m.withdraw(0));
        Refused.in(check, Scenes::fresh, Refused.STATE, "commit", m -> m.commit(0));
        Refused.in(check, Scenes::fresh, Refused.STATE, "rollBack", m -> m.rollBack(0));
        Refused.in(check, Scenes::fresh, Refused.STATE, "runText", LockManager::runText);
        Refused.in(check, Scenes::busy, Refused.STATE, "begin(0)", m -> m.begin(0));
        Refused.in(check, Scenes::busy, Refused.ARGUMENT, "request", m -> m.request(0, 0, 3));
        Refused.in(check, Scenes::busy, Refused.STATE, "work", m -> m.work(1, 1));
        Refused.in(check, Scenes::busy, Refused.STATE, "withdraw", m -> m.withdraw(0));
        Refused.in(check, Scenes::busy, Refused.STATE, "commit", m -> m.commit(1));
        Refused.in(check, Scenes::busy, Refused.BOUNDS, "rollBack", m -> m.rollBack(-1));
        Refused.in(check, Scenes::busy, Refused.STATE, "runText", LockManager::runText);
    }

    @Sentence(of = "Section 7", says = "(It is saved even if the call changes nothing.)")
    static void section7ACallThatChangesNothingSavesToo(Check check) {
        Supplier<LockManager> held = () -> Setup.ran("b0;x00;s01");
        Undoable.in(check, held, "a request of the same lock", m -> m.request(0, 1, SHARED));
        Undoable.in(check, held, "a request of a lesser lock", m -> m.request(0, 0, SHARED));
        Undoable.in(check, Scenes::busy, "a ninth one", m -> m.request(0, 0, EXCLUSIVE));
        Undoable.in(check, () -> Setup.withText("c0"), "a text that does nothing", LockManager::runText);
        LockManager m = held.get();
        m.request(0, 1, SHARED);
        m.undo();
        check.due("undo restores the same", 2, m.locksHeld());
        m.undo();
        check.due("the next undo restores what was before", 0, m.locksHeld());
    }

    private static final String EIGHT =
            "At most 8 states are saved; when a ninth state is saved, the oldest saved state is discarded.";

    @Sentence(of = "Section 7", says = EIGHT)
    static void section7EightStatesAndTheNinth(Check check) {
        for (int calls = 0; calls <= 30; calls++) {
            LockManager m = saved(calls);
            int states = Math.min(8, calls);
            check.due("savedStates after " + calls, states, m.savedStates());
            for (int undos = 1; undos <= states; undos++) {
                check.due("undo " + undos + " after " + calls, states - undos, m.undo());
                check.due("workOf after it", calls - 1 - undos, m.workOf(0));
            }
            check.due("an undo more after " + calls, Refused.STATE.getName(), Refused.answer(m, LockManager::undo));
            check.due("workOf after that", calls - 1 - states, m.workOf(0));
        }
    }

    @Sentence(of = "Section 7", says = EIGHT)
    static void section7TheHistoryTurnsRoundBothWays(Check check) {
        for (int first = 0; first <= 17; first++) {
            for (int undos = 0; undos <= 8; undos++) {
                for (int second = 0; second <= 9; second++) {
                    turnRound(check, first, undos, second);
                }
            }
        }
    }

    /** So many calls, undos and calls again; then all is undone and compared with a list of numbers. */
    private static void turnRound(Check check, int first, int undos, int second) {
        LockManager m = Setup.ran("b0");
        m.undo();
        Setup.run(m, "b0");
        Deque<Integer> works = new ArrayDeque<>();
        works.addLast(-1);
        int work = workOn(m, works, 0, first, 1);
        for (int i = 0; i < undos && !works.isEmpty(); i++) {
            work = works.removeLast();
            check.due("undo", works.size(), m.undo());
        }
        if (work >= 0) {
            workOn(m, works, work, second, 100);
        }
        while (!works.isEmpty()) {
            int due = works.removeLast();
            check.due("undo", works.size(), m.undo());
            String what = "workOf after " + first + " calls, " + undos + " undos and " + second + " calls";
            check.due(what, due, m.workOf(0));
        }
        check.due("savedStates", 0, m.savedStates());
    }

    private static int workOn(LockManager m, Deque<Integer> works, int before, int times, int amount) {
        int work = before;
        for (int i = 0; i < times; i++) {
            works.addLast(work);
            if (works.size() > 8) {
                works.removeFirst();
            }
            work = m.work(0, amount);
        }
        return work;
    }

    // ---- Promise 12: undo

    @Sentence(of = "Promise 12", says = "Restores the state that was saved last, and removes it from the saved states.")
    static void promise12TheLastOfOneAndOfEight(Check check) {
        LockManager one = saved(1);
        check.due("undo of one", 0, one.undo());
        check.due("savedStates", 0, one.savedStates());
        check.due("state", LockManager.IDLE, one.state(0));
        LockManager eight = saved(8);
        check.due("undo of eight", 7, eight.undo());
        check.due("savedStates", 7, eight.savedStates());
        check.due("workOf", 6, eight.workOf(0));
        check.due("undo is not undone by undo", 6, eight.undo());
        check.due("workOf", 5, eight.workOf(0));
        LockManager again = Scenes.busy();
        String before = Snapshot.of(again);
        again.undo();
        again.work(0, 40);
        check.due("the same call once more", before, Snapshot.of(again));
    }

    @Sentence(of = "Promise 12", says = "Returns the number of saved states that remain.")
    static void promise12FromSevenToNone(Check check) {
        for (int states = 1; states <= 9; states++) {
            LockManager m = saved(states);
            for (int left = Math.min(8, states) - 1; left >= 0; left--) {
                check.due("undo", left, m.undo());
                check.due("savedStates", left, m.savedStates());
            }
        }
    }

    @Sentence(of = "Promise 12", says = "Throws `IllegalStateException` if there is no saved state")
    static void promise12NoSavedState(Check check) {
        Refused.in(check, Scenes::fresh, Refused.STATE, "undo of nothing", LockManager::undo);
        Supplier<LockManager> text = () -> Setup.withText("b0");
        Refused.in(check, text, Refused.STATE, "undo after appendText", LockManager::undo);
        for (int states = 1; states <= 10; states++) {
            int calls = states;
            Refused.in(check, () -> allUndone(calls), Refused.STATE, "undo once too often", LockManager::undo);
        }
    }

    private static LockManager allUndone(int calls) {
        LockManager m = saved(calls);
        Traces.undone(m, Math.min(8, calls));
        return m;
    }

    // ---- Promise 29: savedStates

    @Sentence(of = "Promise 29", says = "Returns the number of saved states.")
    static void promise29FromNoneToEight(Check check) {
        for (int calls = 0; calls <= 20; calls++) {
            check.due("savedStates after " + calls, Math.min(8, calls), saved(calls).savedStates());
        }
        for (int undos = 0; undos <= 8; undos++) {
            LockManager m = saved(9);
            Traces.undone(m, undos);
            check.due("savedStates after " + undos + " undos", 8 - undos, m.savedStates());
        }
    }
}
