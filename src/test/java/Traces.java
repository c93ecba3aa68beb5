import java.util.ArrayList;
import java.util.List;
import java.util.function.Consumer;
import java.util.function.Function;
import java.util.function.Supplier;

/**
 * Looks for the traces of a call: all that can be known of a manager on which it was made is
 * compared with all that can be known of one on which it was not. Each look takes managers of its
 * own, since some looks change them and none may take more than 512 calls.
 */
final class Traces {
    private static final String[] ENDINGS = {"", "0", "00", "1,2", ",3", "4", ";b7"};

    private Traces() {
    }

    static void none(Check check, String what, Supplier<LockManager> scene, Consumer<LockManager> call) {
        for (Function<LockManager, String> look : looks()) {
            LockManager touched = scene.get();
            call.accept(touched);
            check.due(what + " leaves no trace", look.apply(scene.get()), look.apply(touched));
        }
    }

    private static List<Function<LockManager, String>> looks() {
        List<Function<LockManager, String>> looks = new ArrayList<>();
        looks.add(Snapshot::of);
        looks.add(Traces::nextBirths);
        for (int undos = 1; undos <= 9; undos++) {
            int times = undos;
            looks.add(m -> undone(m, times) + Snapshot.of(m));
        }
        for (String ending : ENDINGS) {
            looks.add(m -> textWith(m, ending));
        }
        return looks;
    }

    private static String nextBirths(LockManager m) {
        StringBuilder births = new StringBuilder();
        for (int t = 0; t < 8; t++) {
            int transaction = t;
            Refused.answer(m, n -> n.rollBack(transaction));
            births.append(Refused.answer(m, n -> n.begin(transaction))).append(' ');
        }
        return births.toString();
    }

    static String undone(LockManager m, int times) {
        StringBuilder answers = new StringBuilder();
        for (int i = 0; i < times; i++) {
            answers.append(Refused.answer(m, LockManager::undo)).append(' ');
        }
        return answers.toString();
    }

    /** The characters can't be asked for, but what they do with another ending behind them can. */
    private static String textWith(LockManager m, String ending) {
        StringBuilder answers = new StringBuilder();
        for (int i = 0; i < ending.length(); i++) {
            int sign = ending.charAt(i);
            answers.append(Refused.answer(m, n -> n.appendText(sign))).append(' ');
        }
        answers.append(m.errorPosition()).append(' ').append(Refused.answer(m, LockManager::runText)).append(' ');
        return answers + Snapshot.of(m);
    }
}
