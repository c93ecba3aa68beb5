/** Brings managers into a state, without looking at the answers. */
final class Setup {
    private Setup() {
    }

    /** A manager in which the transactions 0 to count - 1 have begun, in this order. */
    static LockManager begun(int count) {
        LockManager m = new LockManager();
        for (int t = 0; t < count; t++) {
            m.begin(t);
        }
        return m;
    }

    static void append(LockManager m, String text) {
        for (int i = 0; i < text.length(); i++) {
            m.appendText(text.charAt(i));
        }
    }

    static LockManager withText(String text) {
        LockManager m = new LockManager();
        append(m, text);
        return m;
    }

    static void run(LockManager m, String text) {
        m.clearText();
        append(m, text);
        m.runText();
        m.clearText();
    }

    static LockManager ran(String text) {
        LockManager m = new LockManager();
        run(m, text);
        return m;
    }
}
