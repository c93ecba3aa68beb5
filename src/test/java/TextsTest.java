/** Promises 8 to 11 and 30: the text buffer, its check and its commands. */
public final class TextsTest {
    private static final Check CHECK = new Check();

    public static void main(String[] args) {
        promises8And30Append();
        promise8Refused();
        promise9Clear();
        promise10ValidTexts();
        promise10ErrorPositions();
        promise10LongTexts();
        promise11RunsEachCommand();
        promise11EndsBeforeAThrow();
        promise11IsOneUndo();
        promise11KeepsTheText();
        promise11Refused();
        CHECK.end();
    }

    private static void promises8And30Append() {
        LockManager m = new LockManager();
        CHECK.due("appendText(32)", 1, m.appendText(32));
        CHECK.due("appendText(126)", 2, m.appendText(126));
        CHECK.due("textLength", 2, m.textLength());
        for (int i = 3; i <= 80; i++) {
            CHECK.due("appendText", i, m.appendText('b'));
        }
        CHECK.due("textLength", 80, m.textLength());
        CHECK.due("appendText saves nothing", 0, m.savedStates());
    }

    private static void promise8Refused() {
        for (int sign : new int[] {31, 127, 0, -1, Integer.MAX_VALUE, Integer.MIN_VALUE, 'b' + 256}) {
            LockManager m = Setup.withText("b");
            CHECK.refused("appendText(" + sign + ")", m, IllegalArgumentException.class, () -> m.appendText(sign));
        }
        String full = "b0;".repeat(26) + "b0";
        LockManager m = Setup.withText(full);
        CHECK.due("80 characters", 80, m.textLength());
        CHECK.refused("the 81st character", m, IllegalStateException.class, () -> m.appendText(';'));
        LockManager n = Setup.withText(full);
        CHECK.refused("the 81st, out of range", n, IllegalArgumentException.class, () -> n.appendText(31));
    }

    private static void promise9Clear() {
        LockManager m = Setup.withText("b0;b1");
        CHECK.due("clearText", 5, m.clearText());
        CHECK.due("clearText of the empty text", 0, m.clearText());
        CHECK.due("textLength after clearText", 0, m.textLength());
        CHECK.due("the text begins anew", 1, m.appendText('c'));
        CHECK.due("its error is at its end", 1, m.errorPosition());
        CHECK.due("clearText saves nothing", 0, m.savedStates());
    }

    private static void promise10ValidTexts() {
        String[] texts = {"b0", "b7", "s00", "s79", "x00", "x79", "w0,1", "w7,9", "w0,10", "w0,99", "w0,100",
            "w0,999", "w0,1000", "c0", "c7", "a0", "a7", "k0", "k7", "b0;s00;x11;w2,345;c3;a4;k5", "b0;b0;b0"};
        for (String text : texts) {
            CHECK.due("errorPosition of " + text, LockManager.NONE, Setup.withText(text).errorPosition());
        }
    }

    private static void promise10ErrorPositions() {
        Object[][] texts = {{"", 0}, {"b", 1}, {"s", 1}, {"s0", 2}, {"x7", 2}, {"w", 1}, {"w0", 2}, {"w0,", 3},
            {"c", 1}, {"b0;", 3}, {"b0;c", 4}, {"b0;w0,", 6}, {" ", 0}, {";", 0}, {"0", 0}, {"d0", 0}, {"B0", 0},
            {"b8", 1}, {"b9", 1}, {"b/", 1}, {"b:", 1}, {"c8", 1}, {"a8", 1}, {"k8", 1}, {"s80", 1}, {"x80", 1},
            {"w8,1", 1}, {"s0:", 2}, {"s0/", 2}, {"s0;", 2}, {"x0a", 2}, {"b00", 2}, {"c0,", 2}, {"s000", 3},
            {"w0;", 2}, {"w01", 2}, {"w0,0", 3}, {"w0,01", 3}, {"w0,;", 3}, {"w0,-1", 3}, {"w0,1,", 4},
            {"w0,1001", 6}, {"w0,1010", 5 + 1}, {"w0,101", LockManager.NONE}, {"w0,1100", 6}, {"w0,2000", 6},
            {"w0,9999", 6}, {"w0,10000", 7}, {"w0,1000;", 8}, {"w0,12a", 5}, {"w0,1 ", 4}, {"w0,/", 3},
            {"w0,:", 3}, {"w0,1:", 4}, {"w0,1/", 4}, {"b0;;b1", 3}, {"b0 ;b1", 2}, {"b0; b1", 3}, {";b0", 0},
            {"b0;b1;", 6}, {"b0;s00;x", 8}, {"b0b1", 2}, {"b0;b8;zz", 4}, {"~", 0}, {"w0,1;w0,1001", 11}};
        for (Object[] text : texts) {
            CHECK.due("errorPosition of " + text[0], (Integer) text[1],
                    Setup.withText((String) text[0]).errorPosition());
        }
    }

    private static void promise10LongTexts() {
        String full = "b0;".repeat(26) + "b0";
        CHECK.due("a valid text of 80", LockManager.NONE, Setup.withText(full).errorPosition());
        LockManager m = Setup.withText("b0;".repeat(26) + "s0");
        CHECK.due("a text of 80 that ends too early", 80, m.errorPosition());
        LockManager n = Setup.withText("b0;".repeat(26) + "b8");
        CHECK.due("the last of 80 is wrong", 79, n.errorPosition());
        CHECK.due("asked again", 79, n.errorPosition());
        n.clearText();
        CHECK.due("nothing stays of it", 0, n.errorPosition());
    }

    private static void promise11RunsEachCommand() {
        LockManager m = Setup.withText("b0;b1;b2;s03;x10;w0,1000;x20;k2;c1;w2,5;s23;a2");
        CHECK.due("twelve commands", 12, m.runText());
        CHECK.due("the states", "100", "" + m.state(0) + m.state(1) + m.state(2));
        CHECK.due("the work", 1001, m.workOf(0));
        CHECK.due("the shared lock", LockManager.SHARED, m.held(0, 3));
        CHECK.due("locksHeld", 1, m.locksHeld());
        LockManager x = Setup.withText("b3;x39");
        CHECK.due("two commands", 2, x.runText());
        CHECK.due("the exclusive lock", LockManager.EXCLUSIVE, x.held(3, 9));
        LockManager withdrawn = Setup.withText("b0;b1;x00;x10;k1;w1,4");
        CHECK.due("it goes on after it has withdrawn", 6, withdrawn.runText());
        CHECK.due("the queue is empty", 0, withdrawn.queueLength(0));
        LockManager ring = Setup.withText("b0;b1;x00;x11;x01;x10;w1,7");
        CHECK.due("a deadlock in a text", 7, ring.runText());
        CHECK.due("is broken", 1, ring.brokenRings());
        CHECK.due("the victim works on", 7, ring.workOf(1));
        LockManager most = Setup.withText("b0;".repeat(26) + "b0");
        CHECK.due("the second begin throws", 1, most.runText());
        LockManager all = Setup.withText("b0;" + "a0;b0;".repeat(12) + "a0;b0");
        CHECK.due("27 commands", 27, all.runText());
        CHECK.due("the birth number tells of 14 begins", 13, all.birthOf(0));
    }

    private static void promise11EndsBeforeAThrow() {
        Object[][] texts = {{"c0", 0}, {"a0", 0}, {"k0", 0}, {"s00", 0}, {"x00", 0}, {"w0,1", 0}, {"b0;b0;b1", 1},
            {"b0;k0;b1", 1}, {"b0;b1;x00;x10;c1;b2", 4}, {"b0;b1;x00;x10;w1,1;b2", 4}, {"b0;b1;x00;x10;s11;b2", 4},
            {"b0;b1;x00;x10;x11;b2", 4}, {"b0;b1;x00;x10;b1;b2", 4}, {"b0;b1;x00;x10;a1;b2", 6},
            {"b0;b1;x00;x10;k1;b2", 6}, {"b0;c0;c0;b2", 2}, {"b0;a0;a0;b2", 2}};
        for (Object[] text : texts) {
            LockManager m = Setup.withText((String) text[0]);
            CHECK.due("runText of " + text[0], (Integer) text[1], m.runText());
            CHECK.due("it saves one state", 1, m.savedStates());
            int last = text[1].equals(6) ? LockManager.ACTIVE : LockManager.IDLE;
            CHECK.due("what comes behind " + text[0], last, m.state(2));
        }
    }

    private static void promise11IsOneUndo() {
        LockManager m = Setup.begun(1);
        Setup.append(m, "w0,5;s00;b1;b1");
        String before = Snapshot.stateOf(m);
        CHECK.due("runText", 3, m.runText());
        CHECK.due("one more saved state", 2, m.savedStates());
        CHECK.due("undo", 1, m.undo());
        CHECK.due("undo of a text", before, Snapshot.stateOf(m));
    }

    private static void promise11KeepsTheText() {
        LockManager m = Setup.withText("b0;w0,1;w0,1");
        CHECK.due("runText", 3, m.runText());
        CHECK.due("the text stays", 12, m.textLength());
        CHECK.due("the text is valid still", LockManager.NONE, m.errorPosition());
        CHECK.due("it runs again, up to begin", 0, m.runText());
        m.rollBack(0);
        CHECK.due("and once more", 3, m.runText());
    }

    private static void promise11Refused() {
        for (String text : new String[] {"", "b0;", "b0;b1;x", "b0;w0,", "b0;w0,1001", "b8", "b0 "}) {
            LockManager m = Setup.withText(text);
            CHECK.refused("runText of " + text, m, IllegalStateException.class, () -> m.runText());
        }
    }
}
