/** Everything that the queries tell of a manager; takes some 170 of its 512 calls. */
final class Snapshot {
    private Snapshot() {
    }

    static String of(LockManager m) {
        StringBuilder s = new StringBuilder(stateOf(m));
        s.append("saved ").append(m.savedStates());
        s.append(" text ").append(m.textLength()).append(" error ").append(m.errorPosition());
        return s.toString();
    }

    /** What undo() restores. */
    static String stateOf(LockManager m) {
        StringBuilder s = new StringBuilder();
        for (int t = 0; t < 8; t++) {
            s.append('T').append(t).append(' ').append(m.state(t)).append(' ').append(m.workOf(t));
            s.append(' ').append(m.abortsOf(t)).append(' ').append(m.birthOf(t));
            s.append(' ').append(m.awaited(t)).append(' ').append(m.waitsFor(t));
            s.append(' ').append(m.blockers(t)).append(" locks ");
            for (int r = 0; r < 10; r++) {
                s.append(m.held(t, r));
            }
            s.append("; ");
        }
        for (int r = 0; r < 10; r++) {
            s.append('R').append(r).append(' ').append(m.holders(r)).append(" queue");
            for (int i = 0; i < m.queueLength(r); i++) {
                s.append(' ').append(m.queued(r, i));
            }
            s.append("; ");
        }
        s.append("rings ").append(m.brokenRings()).append(" lost ").append(m.lostWork());
        s.append(" held ").append(m.locksHeld()).append("; ");
        return s.toString();
    }
}
