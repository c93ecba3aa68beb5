import java.util.function.Supplier;
import java.util.function.ToIntFunction;

/** The boundary cases that the document names in the section 8. */
public final class BoundaryExceptionsTest {
    private static final int SHARED = LockManager.SHARED;
    private static final int EXCLUSIVE = LockManager.EXCLUSIVE;

    public static void main(String[] args) {
        Sentences.testAllOf(BoundaryExceptionsTest.class);
    }

    // ---- 8. EXCEPTIONS: a call that throws an exception changes nothing

    private static final String NOTHING = "A call that throws an exception changes nothing.";

    @Sentence(of = "Section 8", says = NOTHING)
    static void section8ARefusedCallChangesNothingInANewObject(Check check) {
        Supplier<LockManager> scene = Scenes::fresh;
        Refused.in(check, scene, Refused.STATE, "request", m -> m.request(0, 0, SHARED));
        Refused.in(check, scene, Refused.STATE, "work", m -> m.work(0, 1));
        Refused.in(check, scene, Refused.STATE, "withdraw", m -> m.withdraw(0));
        Refused.in(check, scene, Refused.STATE, "commit", m -> m.commit(0));
        Refused.in(check, scene, Refused.STATE, "rollBack", m -> m.rollBack(0));
        Refused.in(check, scene, Refused.STATE, "runText", LockManager::runText);
        Refused.in(check, scene, Refused.STATE, "undo", LockManager::undo);
    }

    @Sentence(of = "Section 8", says = NOTHING)
    static void section8ARefusedCallChangesNothingInABusyObject(Check check) {
        Supplier<LockManager> scene = Scenes::busy;
        Refused.in(check, scene, Refused.STATE, "begin of a waiting one", m -> m.begin(1));
        Refused.in(check, scene, Refused.STATE, "request that would close a ring", m -> m.request(1, 1, EXCLUSIVE));
        Refused.in(check, scene, Refused.STATE, "work of a waiting one", m -> m.work(1, 1));
        Refused.in(check, scene, Refused.STATE, "withdraw of an active one", m -> m.withdraw(0));
        Refused.in(check, scene, Refused.STATE, "commit of a waiting one", m -> m.commit(1));
        Refused.in(check, scene, Refused.STATE, "rollBack of an idle one", m -> m.rollBack(3));
        Refused.in(check, scene, Refused.STATE, "runText of an unfinished text", LockManager::runText);
        Refused.in(check, scene, Refused.ARGUMENT, "appendText", m -> m.appendText(31));
        Refused.in(check, scene, Refused.ARGUMENT, "ifRequested", m -> m.ifRequested(2, 0, 0));
        Refused.in(check, scene, Refused.ARGUMENT, "victimsOf", m -> m.victimsOf(2, 0, 3));
    }

    @Sentence(of = "Section 8", says = NOTHING)
    static void section8ARefusedCallChangesNothingInACrowdedObject(Check check) {
        Supplier<LockManager> scene = Scenes::crowded;
        Refused.in(check, scene, Refused.STATE, "begin", m -> m.begin(7));
        Refused.in(check, scene, Refused.STATE, "request", m -> m.request(7, 0, SHARED));
        Refused.in(check, scene, Refused.ARGUMENT, "work", m -> m.work(6, 1001));
        Refused.in(check, scene, Refused.STATE, "withdraw", m -> m.withdraw(6));
        Refused.in(check, scene, Refused.STATE, "commit", m -> m.commit(7));
        Refused.in(check, scene, Refused.BOUNDS, "rollBack", m -> m.rollBack(8));
        Refused.in(check, scene, Refused.STATE, "appendText to a full text", m -> m.appendText(';'));
        Refused.in(check, scene, Refused.BOUNDS, "queued", m -> m.queued(9, -1));
    }

    // ---- 8. EXCEPTIONS: the one that is named first in the throws clause

    private static final String FIRST = "If several exceptions apply to a call, the one that is named first in the "
            + "throws clause of the method is thrown.";

    /** In which 0 is active, 1 waits and 2 is idle, and the text is full. */
    private static LockManager full() {
        LockManager m = Setup.ran("b0;b1;x00;x10");
        Setup.append(m, "b0;".repeat(26) + "b0");
        return m;
    }

    private static void first(Check check, Class<? extends RuntimeException> due, String what,
            ToIntFunction<LockManager> call) {
        Refused.in(check, BoundaryExceptionsTest::full, due, what, call);
    }

    @Sentence(of = "Section 8", says = FIRST)
    static void section8FirstOfRequest(Check check) {
        for (int t : new int[] {-1, 8}) {
            first(check, Refused.BOUNDS, "no transaction, no mode", m -> m.request(t, 0, 0));
            first(check, Refused.BOUNDS, "no transaction, no resource, no mode", m -> m.request(t, 10, 3));
        }
        for (int r : new int[] {-1, 10}) {
            first(check, Refused.BOUNDS, "no resource, no mode", m -> m.request(0, r, 3));
            for (int t : new int[] {1, 2}) {
                first(check, Refused.BOUNDS, "no resource, not active", m -> m.request(t, r, SHARED));
                first(check, Refused.BOUNDS, "no resource, no mode, not active", m -> m.request(t, r, 0));
            }
        }
        for (int t : new int[] {1, 2}) {
            first(check, Refused.ARGUMENT, "no mode, not active", m -> m.request(t, 0, 0));
            first(check, Refused.ARGUMENT, "no mode, not active", m -> m.request(t, 9, 3));
        }
    }

    @Sentence(of = "Section 8", says = FIRST)
    static void section8FirstOfWork(Check check) {
        for (int amount : new int[] {0, 1001}) {
            first(check, Refused.BOUNDS, "no transaction, no amount", m -> m.work(-1, amount));
            first(check, Refused.BOUNDS, "no transaction, no amount", m -> m.work(8, amount));
            first(check, Refused.ARGUMENT, "no amount, waiting", m -> m.work(1, amount));
            first(check, Refused.ARGUMENT, "no amount, idle", m -> m.work(2, amount));
        }
    }

    @Sentence(of = "Section 8", says = FIRST)
    static void section8FirstOfAppendText(Check check) {
        for (int sign : Refused.NO_CHARACTERS) {
            first(check, Refused.ARGUMENT, "appendText(" + sign + ") to a full text", m -> m.appendText(sign));
        }
    }

    @Sentence(of = "Section 8", says = FIRST)
    static void section8FirstOfTheQuestions(Check check) {
        for (int mode : new int[] {0, 3}) {
            first(check, Refused.BOUNDS, "ifRequested of no transaction", m -> m.ifRequested(8, 0, mode));
            first(check, Refused.BOUNDS, "ifRequested of no transaction", m -> m.ifRequested(-1, 10, mode));
            first(check, Refused.BOUNDS, "ifRequested for no resource", m -> m.ifRequested(0, 10, mode));
            first(check, Refused.BOUNDS, "victimsOf of no transaction", m -> m.victimsOf(8, 0, mode));
            first(check, Refused.BOUNDS, "victimsOf of no transaction", m -> m.victimsOf(-1, 10, mode));
            first(check, Refused.BOUNDS, "victimsOf for no resource", m -> m.victimsOf(0, -1, mode));
        }
    }

    @Sentence(of = "Section 8", says = FIRST)
    static void section8FirstOfThoseWithTheTransactionAlone(Check check) {
        for (int t : Refused.NO_TRANSACTIONS) {
            first(check, Refused.BOUNDS, "begin(" + t + ")", m -> m.begin(t));
            first(check, Refused.BOUNDS, "withdraw(" + t + ")", m -> m.withdraw(t));
            first(check, Refused.BOUNDS, "commit(" + t + ")", m -> m.commit(t));
            first(check, Refused.BOUNDS, "rollBack(" + t + ")", m -> m.rollBack(t));
        }
    }
}
