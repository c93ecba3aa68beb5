import java.lang.reflect.Method;
import java.lang.reflect.Modifier;
import java.util.ArrayList;
import java.util.List;
import java.util.function.Supplier;

/** The sentences of the document that name no boundary case. */
public final class PlainSentencesTest {
    private static final int SHARED = LockManager.SHARED;
    private static final int EXCLUSIVE = LockManager.EXCLUSIVE;
    private static final int GRANTED = LockManager.GRANTED;
    private static final int QUEUED = LockManager.QUEUED;
    private static final int ABORTED = LockManager.ABORTED;
    private static final int IDLE = LockManager.IDLE;
    private static final int ACTIVE = LockManager.ACTIVE;
    private static final int WAITING = LockManager.WAITING;
    private static final int NONE = LockManager.NONE;

    public static void main(String[] args) {
        Sentences.testAllOf(PlainSentencesTest.class);
    }

    // ---- What it is, Terms

    private static final String WHAT_IT_IS = "A lock manager for transactions (strict two-phase locking) that finds "
            + "deadlocks when a request has to wait, and that breaks each of them by aborting the transaction of the "
            + "ring that has done the least work.";

    @Sentence(of = "What it is", says = WHAT_IT_IS)
    static void whatItIsLocksAreHeldToTheEnd(Check check) {
        for (String ending : new String[] {"c0", "a0"}) {
            LockManager m = Setup.ran("b0;b1;x00;s01;x12");
            Setup.run(m, "w0,5;s03;x00;s00;x04;s02;k0");
            check.due("locks after work, requests and a withdrawal", 0b11011, locksOf(m, 0));
            Setup.run(m, "s02");
            check.due("locks while it waits", 0b11011, locksOf(m, 0));
            Setup.run(m, "c1");
            check.due("locks with the one from the queue", 0b11111, locksOf(m, 0));
            Setup.run(m, ending);
            check.due("locks after " + ending, 0, locksOf(m, 0));
        }
    }

    private static int locksOf(LockManager m, int t) {
        int set = 0;
        for (int r = 0; r < 10; r++) {
            set |= m.held(t, r) == 0 ? 0 : 1 << r;
        }
        return set;
    }

    @Sentence(of = "What it is", says = WHAT_IT_IS)
    static void whatItIsTheRequestThatHasToWaitBreaksTheRing(Check check) {
        for (int least = 0; least < 3; least++) {
            LockManager m = Setup.ran("b0;b1;b2;x00;x11;x22");
            for (int t = 0; t < 3; t++) {
                m.work(t, t == least ? 1 : 2);
            }
            m.request(0, 1, SHARED);
            m.request(1, 2, SHARED);
            check.due("no ring is found before it is closed", 0, m.brokenRings());
            m.request(2, 0, SHARED);
            check.due("it is broken by the call that closes it", 1, m.brokenRings());
            for (int t = 0; t < 3; t++) {
                check.due("aborts of " + t + " with the least work at " + least, t == least ? 1 : 0, m.abortsOf(t));
            }
        }
    }

    @Sentence(of = "Terms", says = "All quantities are integers.")
    static void termsTheFaceAsksAndAnswersInt(Check check) {
        int calls = 0;
        for (Method method : LockManager.class.getDeclaredMethods()) {
            if (Modifier.isPublic(method.getModifiers())) {
                check.due(method.getName() + " answers", "int", method.getReturnType().getName());
                for (Class<?> parameter : method.getParameterTypes()) {
                    check.due(method.getName() + " asks", "int", parameter.getName());
                }
                calls++;
            }
        }
        check.due("the calls of the face", 29, calls);
    }

    // ---- Sections 1 to 6

    @Sentence(of = "Section 1", says = "A request has a transaction and a mode.")
    static void section1ARequestHasATransactionAndAMode(Check check) {
        for (int t = 0; t < 7; t++) {
            for (int mode = SHARED; mode <= EXCLUSIVE; mode++) {
                LockManager m = Setup.begun(8);
                m.request(7, 4, EXCLUSIVE);
                m.request(t, 4, mode);
                check.due("the request of " + t, 10 * t + mode, m.queued(4, 0));
                m.commit(7);
                check.due("its mode is granted to it", mode, m.held(t, 4));
            }
        }
    }

    private static final String RULES = "A request of an ACTIVE transaction T for a lock on a resource is handled by "
            + "the first of the following rules that applies:";

    /** The request of 0 for the resource 0, its lock, its work, and where its own request then stands. */
    private static void handled(Check check, String what, String text, int mode, String due) {
        LockManager m = Setup.ran(text);
        int result = m.request(0, 0, mode);
        int place = NONE;
        for (int i = 0; i < m.queueLength(0); i++) {
            place = m.queued(0, i) / 10 == 0 ? i : place;
        }
        check.due(what, due, result + " " + m.held(0, 0) + " " + m.workOf(0) + " " + place);
    }

    @Sentence(of = "Section 2", says = RULES)
    static void section2TheFirstRuleGoesBeforeAllOthers(Check check) {
        handled(check, "the first before the second", "b0;s00", SHARED, "1 1 1 -1");
        handled(check, "the first before the third", "b0;b1;b2;s00;s10;x20", SHARED, "1 1 1 -1");
        handled(check, "the first before the fourth", "b0;b1;s00;s10", SHARED, "1 1 1 -1");
        handled(check, "the first before the fourth, exclusive", "b0;x00", EXCLUSIVE, "1 2 1 -1");
        handled(check, "the first before the fourth, the lesser mode", "b0;x00", SHARED, "1 2 1 -1");
        handled(check, "the first before the fifth", "b0;b1;x00;x10", SHARED, "1 2 1 -1");
    }

    @Sentence(of = "Section 2", says = RULES)
    static void section2TheOtherRulesInTheirOrder(Check check) {
        handled(check, "the second before the third", "b0;s00", EXCLUSIVE, "1 2 2 -1");
        handled(check, "the second before the fifth", "b0;b1;b2;s00;x10;s20", EXCLUSIVE, "1 2 2 -1");
        handled(check, "the third before the fifth", "b0;b1;b2;b3;s00;s10;x20;s30", EXCLUSIVE, "2 1 1 0");
        handled(check, "the fourth before the fifth", "b0;b1;s10", SHARED, "1 1 1 -1");
        handled(check, "the fifth with a queue", "b0;b1;b2;b3;s10;x20;s30", SHARED, "2 0 0 2");
        handled(check, "the fifth with a lock", "b0;b1;s10", EXCLUSIVE, "2 0 0 0");
    }

    @Sentence(of = "Section 6", says = "A command is one of the following, where")
    static void section6EachCommandIsOneOfTheSeven(Check check) {
        for (String command : new String[] {"b1", "s12", "x12", "w1,30", "c1", "a1", "k1"}) {
            for (int length = 1; length < command.length(); length++) {
                String start = command.substring(0, length);
                boolean less = start.equals("w1,3");
                check.due("errorPosition of " + start, less ? NONE : length, Setup.withText(start).errorPosition());
            }
            check.due("errorPosition of " + command, NONE, Setup.withText(command).errorPosition());
            int two = command.length();
            check.due("two without a semicolon", two, Setup.withText(command + command).errorPosition());
        }
    }

    // ---- Promises 3 and 4: request and work

    @Sentence(of = "Promise 3", says = "Requests a lock (section 2).")
    static void promise3ThisLockAndNoOtherIsRequested(Check check) {
        for (int t = 0; t < 8; t++) {
            for (int r = 0; r < 10; r++) {
                LockManager m = Setup.begun(8);
                m.request(t, r, 1 + r % 2);
                check.due("locks after request(" + t + ", " + r + ")", 1 << r, locksOf(m, t));
                check.due("its mode", 1 + r % 2, m.held(t, r));
                check.due("locksHeld", 1, m.locksHeld());
                int other = (t + 1) % 8;
                m.request(other, r, EXCLUSIVE);
                check.due("awaited by " + other, r, m.awaited(other));
                check.due("locksHeld", 1, m.locksHeld());
            }
        }
    }

    @Sentence(of = "Promise 4", says = "Adds work to a transaction.")
    static void promise4AddsToThisTransactionAlone(Check check) {
        for (int t = 0; t < 8; t++) {
            LockManager m = Setup.ran("b0;b1;b2;b3;b4;b5;b6;b7;w0,30;w7,30");
            int before = m.workOf(t);
            check.due("work(" + t + ", 4)", before + 4, m.work(t, 4));
            check.due("work(" + t + ", 5)", before + 9, m.work(t, 5));
            for (int other = 0; other < 8; other++) {
                int due = (other % 7 == 0 ? 30 : 0) + (other == t ? 9 : 0);
                check.due("workOf(" + other + ")", due, m.workOf(other));
            }
        }
    }

    // ---- Promises 13 to 23: what is asked is told after each call that changes it

    private interface Question {
        int about(LockManager m);
    }

    /** Runs each command by itself, and asks after each one. */
    private static void follow(Check check, Question question, Object... commandsAndAnswers) {
        LockManager m = new LockManager();
        for (int i = 0; i < commandsAndAnswers.length; i += 2) {
            String command = (String) commandsAndAnswers[i];
            if (command.equals("undo")) {
                m.undo();
            } else {
                Setup.run(m, command);
            }
            check.due("after " + command, (Integer) commandsAndAnswers[i + 1], question.about(m));
        }
    }

    @Sentence(of = "Promise 13", says = "Returns the state of a transaction.")
    static void promise13TheStateAfterEachCall(Check check) {
        follow(check, m -> m.state(3), "b4;x40", IDLE, "b3", ACTIVE, "w3,5", ACTIVE, "x31", ACTIVE, "x30", WAITING,
                "w4,1", WAITING, "k3", ACTIVE, "s30", WAITING, "c4", ACTIVE, "c3", IDLE, "undo", ACTIVE, "undo",
                WAITING, "a3", IDLE, "undo", WAITING, "w4,50;x41", ACTIVE);
    }

    @Sentence(of = "Promise 14", says = "Returns the work of a transaction.")
    static void promise14TheWorkAfterEachCall(Check check) {
        follow(check, m -> m.workOf(3), "b4;x40", NONE, "b3", 0, "w3,5", 5, "s31", 6, "s31", 6, "x31", 7, "x30", 7,
                "k3", 7, "s30", 7, "c4", 8, "b4;w4,90;x42;x32", 8, "x41", 0, "undo", 8, "a3", NONE, "b3", 0);
    }

    @Sentence(of = "Promise 15", says = "Returns the abort count of a transaction.")
    static void promise15TheAbortCountAfterEachCall(Check check) {
        follow(check, m -> m.abortsOf(3), "b4;w4,90;x40", NONE, "b3;x31", 0, "x30", 0, "x41", 1, "w3,9;x32;x30", 1,
                "x42", 2, "k3", 2, "undo", 2, "undo", 1, "a3", NONE, "b3", 0);
    }

    @Sentence(of = "Promise 16", says = "Returns the birth number of a transaction.")
    static void promise16TheBirthNumberAfterEachCall(Check check) {
        follow(check, m -> m.birthOf(3), "b4;w4,90;x40", NONE, "b3;x31", 1, "x30", 1, "x41", 1, "b5", 1, "c3", NONE,
                "b3", 3, "undo", NONE, "b6", NONE, "b3", 4, "a3", NONE, "b3", 5);
    }

    @Sentence(of = "Promise 17", says = "Returns the mode of the lock that a transaction holds on a resource.")
    static void promise17TheModeAfterEachCall(Check check) {
        follow(check, m -> m.held(3, 6), "b4;b3", 0, "s36", SHARED, "x36", EXCLUSIVE, "s36", EXCLUSIVE, "x46",
                EXCLUSIVE, "c3", 0, "b3;s36", 0, "c4", SHARED, "undo", 0, "k3", 0, "a4;x36", EXCLUSIVE,
                "b4;w4,90;x41;x31", EXCLUSIVE, "s46", 0);
    }

    @Sentence(of = "Promise 18", says = "Returns the resource in whose queue the request of a transaction is.")
    static void promise18TheResourceOfEachQueue(Check check) {
        for (int r = 0; r < 10; r++) {
            String request = "s3" + r;
            follow(check, m -> m.awaited(3), "b3;b4;b5;x4" + r, NONE, request, r, "w4,5", r, "x5" + r, r, "k3", NONE,
                    request, r, "a4", r, "a5", NONE, "undo", r, "undo", r, "k5;a4", NONE);
        }
    }

    @Sentence(of = "Promise 19", says = "Returns the transactions for which a transaction waits (section 4).")
    static void promise19TheSetAfterEachCall(Check check) {
        follow(check, m -> m.waitsFor(3), "b1;b2;b3;b5;b6;s10;s20", 0, "x50", 0, "x30", 0b100110, "s60", 0b100110,
                "k5", 0b000110, "c1", 0b000100, "c2", 0, "undo", 0b000100, "x20", 0b000100, "b1;s21;s11;x21",
                0b000100, "k3;s30", 0b000100, "a2", 0);
        follow(check, m -> m.waitsFor(3), "b1;b2;b3;s10;s20;x30", 0b110, "x10", 0b110, "c2", 0b010, "c1", 0);
    }

    @Sentence(of = "Promise 21", says = "Returns the transactions that hold a lock on a resource.")
    static void promise21TheSetAfterEachCall(Check check) {
        follow(check, m -> m.holders(5), "b0;b3;b7", 0, "s35", 0b1000, "s75", 0b10001000, "x05", 0b10001000, "k0",
                0b10001000, "s05", 0b10001001, "s36", 0b10001001, "c3", 0b10000001, "a7", 0b1, "x05", 0b1, "b7;x75",
                0b1, "c0", 0b10000000, "undo", 0b1);
    }

    @Sentence(of = "Promise 22", says = "Returns the number of requests in the queue of a resource.")
    static void promise22TheNumberAfterEachCall(Check check) {
        follow(check, m -> m.queueLength(5), "b0;b1;b2;b3;b4;w0,90;x05", 0, "s15", 1, "x25", 2, "s35", 3, "s45", 4,
                "k3", 3, "a2", 2, "undo", 3, "undo", 4, "b5;x56;x06", 4, "k0;a2", 3, "x31", 3, "c0", 0);
        follow(check, m -> m.queueLength(5), "b0;b1;w0,90;x05;x16", 0, "x15", 1, "x06", 0);
    }

    @Sentence(of = "Promise 23", says = "Returns a request in the queue of a resource.")
    static void promise23TheFirstTwoAfterEachCall(Check check) {
        follow(check, m -> 100 * m.queued(5, 0) + m.queued(5, 1), "b0;b1;b2;b3;s05;s15;x25", 2199, "s35", 2231, "x05",
                222, "k0", 2231, "k2", -101, "undo", 2231, "c0", 2231, "c1", 3099, "c2", -101);
    }

    // ---- Promises 24 and 25: what is told is what request() then does

    private static final List<Supplier<LockManager>> STATES = List.of(Scenes::fresh, Scenes::busy, Scenes::crowded,
            () -> Setup.ran("b5;b0;b7;s00;s70;x51;w5,9;x01;s71"),
            () -> Setup.ran("b5;b6;b7;s60;s70;x51;w7,99;w5,9;x61;s71"),
            () -> Setup.ran("b0;b1;b2;b3;s00;s10;s20;x31;s22;x32;x20;w1,5"),
            () -> Setup.ran("b0;b1;b2;x00;x11;x22;w1,7;w2,3;s01;x12"));

    private interface Asked {
        void of(Supplier<LockManager> state, int t, int r, int mode);
    }

    private static void askAll(Asked asked) {
        for (Supplier<LockManager> state : STATES) {
            for (int i = 0; i < 8 * 10 * 2; i++) {
                asked.of(state, i / 20, i / 2 % 10, 1 + i % 2);
            }
        }
    }

    @Sentence(of = "Promise 24", says = "Tells what request() would return now.")
    static void promise24TellsWhatRequestThenReturns(Check check) {
        List<Integer> results = new ArrayList<>();
        askAll((state, t, r, mode) -> {
            String then = Refused.answer(state.get(), m -> m.request(t, r, mode));
            String due = then.equals(Refused.STATE.getName()) ? "-1" : then;
            LockManager m = state.get();
            int told = m.ifRequested(t, r, mode);
            check.due("ifRequested(" + t + ", " + r + ", " + mode + ")", due, "" + told);
            check.due("asked again", told, m.ifRequested(t, r, mode));
            results.add(told);
        });
        for (int result : new int[] {NONE, GRANTED, QUEUED, ABORTED}) {
            check.due("the states lead to " + result, 1, results.contains(result) ? 1 : 0);
        }
    }

    @Sentence(of = "Promise 25", says = "Tells which transactions would be victims if request() was called now.")
    static void promise25TellsWhichAbortsRequestThenCounts(Check check) {
        List<Integer> sizes = new ArrayList<>();
        askAll((state, t, r, mode) -> {
            LockManager before = state.get();
            LockManager after = state.get();
            Refused.answer(after, m -> m.request(t, r, mode));
            int due = 0;
            for (int u = 0; u < 8; u++) {
                due |= after.abortsOf(u) > before.abortsOf(u) ? 1 << u : 0;
            }
            check.due("victimsOf(" + t + ", " + r + ", " + mode + ")", due, before.victimsOf(t, r, mode));
            check.due("asked again", due, before.victimsOf(t, r, mode));
            sizes.add(Integer.bitCount(due));
        });
        for (int size = 0; size <= 2; size++) {
            check.due("the states lead to " + size + " victims", 1, sizes.contains(size) ? 1 : 0);
        }
    }
}
