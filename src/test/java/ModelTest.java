import java.util.function.IntSupplier;

/**
 * Promises 1 to 30: long runs of calls, each answer compared with the one of the model. The calls
 * come from a number series with a fixed beginning, so every run of this test makes the same ones.
 */
public final class ModelTest {
    private static final Check CHECK = new Check();
    private static final int RUNS = 3000;
    private static final int CALLS = 512;
    private static final String SIGNS = "bsxwcak01234567890,,;;;";

    private final LockManager program = new LockManager();
    private final Model model = new Model();
    private final int run;
    private final int resources;
    private final int changesInTen;
    private long seed;
    private int calls;
    private static int aborts;
    private static int severalVictims;
    private static int spared;

    private ModelTest(int run) {
        this.run = run;
        seed = 1000003L * run + 17;
        // Few resources make many deadlocks, and few questions make full queues.
        resources = 2 + run % 9;
        changesInTen = 3 + run % 7;
    }

    public static void main(String[] args) {
        for (int run = 0; run < RUNS; run++) {
            new ModelTest(run).compare();
        }
        // Runs without deadlocks would prove little.
        CHECK.due("the runs have aborted requests", 1, aborts > 500 ? 1 : 0);
        CHECK.due("the runs have requests with several victims", 1, severalVictims > 500 ? 1 : 0);
        CHECK.due("the runs have requests of spared transactions", 1, spared > 500 ? 1 : 0);
        System.out.println(aborts + " aborted requests, " + severalVictims + " with several victims, " + spared
                + " of spared transactions");
        CHECK.end();
    }

    private void compare() {
        if (run % 3 != 0) {
            beginAll();
        }
        while (calls < CALLS - 2) {
            if (below(10) < changesInTen) {
                change();
            } else {
                askOne();
            }
        }
    }

    private void beginAll() {
        for (int t = 0; t < 8; t++) {
            int transaction = t;
            same("begin " + t, model.begin(t), () -> program.begin(transaction));
        }
    }

    private int below(int bound) {
        seed = seed * 6364136223846793005L + 1442695040888963407L;
        return (int) Long.remainderUnsigned(seed >>> 33, bound);
    }

    /** Mostly in range. */
    private int number(int bound) {
        int kind = below(100);
        if (kind > 2) {
            return below(bound);
        }
        return kind == 0 ? -1 : kind == 1 ? bound : below(2) == 0 ? Integer.MIN_VALUE : Integer.MAX_VALUE;
    }

    private int mode() {
        int kind = below(50);
        return kind == 0 ? 0 : kind == 1 ? 3 : 1 + below(2);
    }

    /** Mostly one in that state, if there is one. */
    private int transactionIn(int state) {
        int first = number(8);
        for (int i = 0; i < 8 && first >= 0 && first < 8 && below(20) != 0; i++) {
            if (model.state((first + i) % 8) == state) {
                return (first + i) % 8;
            }
        }
        return first;
    }

    private void same(String call, int want, IntSupplier got) {
        calls++;
        int answer;
        try {
            answer = got.getAsInt();
        } catch (RuntimeException e) {
            answer = codeOf(e);
        }
        CHECK.due("run " + run + ", call " + calls + ": " + call, want, answer);
    }

    private static int codeOf(RuntimeException e) {
        if (e.getClass() == IndexOutOfBoundsException.class) {
            return Model.BOUNDS;
        }
        if (e.getClass() == IllegalArgumentException.class) {
            return Model.ARGUMENT;
        }
        return e.getClass() == IllegalStateException.class ? Model.STATE : -9999;
    }

    private void change() {
        int kind = below(100);
        if (kind < 55) {
            request();
        } else if (kind < 67) {
            int t = transactionIn(LockManager.ACTIVE);
            int amount = below(20) == 0 ? number(1001) : 1 + below(6);
            same("work " + t + " " + amount, model.work(t, amount), () -> program.work(t, amount));
        } else if (kind < 75) {
            int t = transactionIn(LockManager.IDLE);
            same("begin " + t, model.begin(t), () -> program.begin(t));
        } else if (kind < 80) {
            int t = transactionIn(LockManager.ACTIVE);
            same("commit " + t, model.commit(t), () -> program.commit(t));
        } else if (kind < 83) {
            int t = transactionIn(LockManager.WAITING);
            same("rollBack " + t, model.rollBack(t), () -> program.rollBack(t));
        } else if (kind < 87) {
            int t = transactionIn(LockManager.WAITING);
            same("withdraw " + t, model.withdraw(t), () -> program.withdraw(t));
        } else if (kind < 93) {
            same("undo", model.undo(), program::undo);
        } else if (kind < 95) {
            text();
        } else {
            int sign = below(30) == 0 ? 31 + below(97) : SIGNS.charAt(below(SIGNS.length()));
            same("appendText " + sign, model.appendText(sign), () -> program.appendText(sign));
        }
    }

    private void request() {
        int t = transactionIn(LockManager.ACTIVE);
        int r = below(40) == 0 ? number(10) : below(resources);
        int mode = mode();
        String arguments = " " + t + " " + r + " " + mode;
        int victims = model.victimsOf(t, r, mode);
        if (below(2) == 0) {
            same("victimsOf" + arguments, victims, () -> program.victimsOf(t, r, mode));
        }
        int result = model.request(t, r, mode);
        aborts += result == LockManager.ABORTED ? 1 : 0;
        severalVictims += result >= 0 && Integer.bitCount(victims) > 1 ? 1 : 0;
        spared += t >= 0 && t < 8 && model.abortsOf(t) > 1 ? 1 : 0;
        same("request" + arguments, result, () -> program.request(t, r, mode));
        same("brokenRings", model.brokenRings(), program::brokenRings);
    }

    /** A text of some commands, sometimes with a wrong character, that is checked and run. */
    private void text() {
        same("clearText", model.clearText(), program::clearText);
        StringBuilder commands = new StringBuilder(command());
        for (int i = below(6); i > 0; i--) {
            commands.append(';').append(command());
        }
        if (below(4) == 0) {
            commands.setCharAt(below(commands.length()), SIGNS.charAt(below(SIGNS.length())));
        }
        for (int i = 0; i < commands.length() && calls < CALLS - 4; i++) {
            int sign = commands.charAt(i);
            same("appendText " + sign, model.appendText(sign), () -> program.appendText(sign));
        }
        same("errorPosition of " + commands, model.errorPosition(), program::errorPosition);
        same("runText of " + commands, model.runText(), program::runText);
    }

    private String command() {
        String start = String.valueOf("bssxxxwcak".charAt(below(10)));
        int t = below(8);
        switch (start.charAt(0)) {
            case 's':
            case 'x':
                return start + t + below(resources);
            case 'w':
                return start + t + "," + (below(3) == 0 ? below(1100) : 1 + below(9));
            default:
                return start + t;
        }
    }

    private void askOne() {
        int t = number(8);
        int r = number(10);
        int mode = mode();
        switch (below(19)) {
            case 0: same("state " + t, model.state(t), () -> program.state(t)); break;
            case 1: same("workOf " + t, model.workOf(t), () -> program.workOf(t)); break;
            case 2: same("abortsOf " + t, model.abortsOf(t), () -> program.abortsOf(t)); break;
            case 3: same("birthOf " + t, model.birthOf(t), () -> program.birthOf(t)); break;
            case 4: same("held " + t + " " + r, model.held(t, r), () -> program.held(t, r)); break;
            case 5: same("awaited " + t, model.awaited(t), () -> program.awaited(t)); break;
            case 6: same("waitsFor " + t, model.waitsFor(t), () -> program.waitsFor(t)); break;
            case 7: same("blockers " + t, model.blockers(t), () -> program.blockers(t)); break;
            case 8: same("holders " + r, model.holders(r), () -> program.holders(r)); break;
            case 9: same("queueLength " + r, model.queueLength(r), () -> program.queueLength(r)); break;
            case 10: same("queued " + r + " " + t, model.queued(r, t), () -> program.queued(r, t)); break;
            case 11:
                same("ifRequested " + t + " " + r + " " + mode, model.ifRequested(t, r, mode),
                        () -> program.ifRequested(t, r, mode));
                break;
            case 12:
                same("victimsOf " + t + " " + r + " " + mode, model.victimsOf(t, r, mode),
                        () -> program.victimsOf(t, r, mode));
                break;
            case 13: same("brokenRings", model.brokenRings(), program::brokenRings); break;
            case 14: same("lostWork", model.lostWork(), program::lostWork); break;
            case 15: same("locksHeld", model.locksHeld(), program::locksHeld); break;
            case 16: same("savedStates", model.savedStates(), program::savedStates); break;
            case 17: same("textLength", model.textLength(), program::textLength); break;
            default: same("errorPosition", model.errorPosition(), program::errorPosition); break;
        }
    }
}
