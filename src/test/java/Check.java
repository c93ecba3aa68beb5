import java.util.function.IntSupplier;

/** Counts and prints the answers that are not the ones that are due. */
final class Check {
    private int asked;
    private int wrong;

    void due(String what, long want, long got) {
        asked++;
        if (want != got) {
            fault(what + " answered " + got + ", due is " + want);
        }
    }

    void due(String what, String want, String got) {
        asked++;
        if (!want.equals(got)) {
            fault(what + " answered\n  " + got + ", due is\n  " + want);
        }
    }

    /** The exception must be of the very class that the document names, and nothing may change. */
    void refused(String what, LockManager m, Class<? extends RuntimeException> want, IntSupplier call) {
        asked++;
        String before = Snapshot.of(m);
        try {
            fault(what + " answered " + call.getAsInt() + ", due is " + want.getSimpleName());
        } catch (RuntimeException e) {
            if (e.getClass() != want) {
                fault(what + " threw " + e + ", due is " + want.getSimpleName());
            }
        }
        due(what + " throws and changes nothing: the state", before, Snapshot.of(m));
    }

    void fault(String line) {
        wrong++;
        System.out.println(line);
    }

    /** A test that has asked nothing has shown nothing. */
    boolean isClean() {
        return wrong == 0 && asked > 0;
    }

    void end() {
        System.out.println(wrong + " of " + asked + " answers are not as due");
        if (!isClean()) {
            System.exit(1);
        }
    }
}
