import java.util.function.Supplier;

/** The boundary cases that the document names in the section 6 and in the promises 8 to 11 and 30. */
public final class BoundaryTextsTest {
    private static final int NONE = LockManager.NONE;
    private static final int ACTIVE = LockManager.ACTIVE;

    /** A valid text of 80 characters with 27 commands, of which the second one can't be executed. */
    private static final String FULL = "b0;".repeat(26) + "b0";

    public static void main(String[] args) {
        Sentences.testAllOf(BoundaryTextsTest.class);
    }

    private static void error(Check check, String text, int due) {
        check.due("errorPosition of \"" + text + "\"", due, Setup.withText(text).errorPosition());
    }

    // ---- 6. TEXTS

    @Sentence(of = "Section 6", says = "The text buffer holds at most 80 characters and is empty at first.")
    static void section6EmptyAtFirstAndAtMostEighty(Check check) {
        LockManager m = new LockManager();
        check.due("at first", 0, m.textLength());
        for (int i = 1; i <= 80; i++) {
            check.due("the character " + i, i, m.appendText('b'));
        }
        check.due("full", 80, m.textLength());
        Refused.in(check, () -> Setup.withText(FULL), Refused.STATE, "the 81st character", n -> n.appendText(';'));
        check.due("all 80 are there", 27, Setup.withText("b0;" + "a0;b0;".repeat(12) + "a0;b0").runText());
    }

    private static final String COMMANDS =
            "A valid text consists of one or more commands, with one semicolon between two commands.";

    @Sentence(of = "Section 6", says = COMMANDS)
    static void section6NoCommandOneCommandAndTheMost(Check check) {
        error(check, "", 0);
        error(check, "b0", NONE);
        error(check, "b0;b1", NONE);
        error(check, FULL, NONE);
    }

    @Sentence(of = "Section 6", says = COMMANDS)
    static void section6NoSemicolonOneAndTwo(Check check) {
        error(check, "b0b1", 2);
        error(check, "b0;b1", NONE);
        error(check, "b0;;b1", 3);
        error(check, ";b0", 0);
        error(check, ";", 0);
        error(check, "b0;", 3);
        error(check, "b0;b1;", 6);
        for (char sign = 32; sign <= 126; sign++) {
            error(check, "b0" + sign, sign == ';' ? 3 : 2);
            error(check, "s00" + sign, sign == ';' ? 4 : 3);
            error(check, "w0,1000" + sign, sign == ';' ? 8 : 7);
        }
    }

    @Sentence(of = "Section 6", says = "t stands for a digit from 0 to 7 (the transaction)")
    static void section6TheTransactionIs0To7(Check check) {
        for (char kind : "bsxwcak".toCharArray()) {
            boolean whole = "bcak".indexOf(kind) >= 0;
            for (char sign = 32; sign <= 126; sign++) {
                int taken = whole ? NONE : 2;
                error(check, "" + kind + sign, sign >= '0' && sign <= '7' ? taken : 1);
            }
        }
    }

    @Sentence(of = "Section 6", says = "r for a digit from 0 to 9 (the resource)")
    static void section6TheResourceIs0To9(Check check) {
        for (char kind : "sx".toCharArray()) {
            for (char sign = 32; sign <= 126; sign++) {
                error(check, kind + "7" + sign, sign >= '0' && sign <= '9' ? NONE : 2);
            }
        }
    }

    private static final String NUMBER = "and n for a decimal number from 1 to 1000 without leading zeros:";

    @Sentence(of = "Section 6", says = NUMBER)
    static void section6TheNumberIs1To1000(Check check) {
        error(check, "w0,0", 3);
        for (int n = 1; n <= 1000; n++) {
            error(check, "w0," + n, NONE);
        }
        for (int n = 1001; n <= 9999; n++) {
            error(check, "w0," + n, 6);
        }
        error(check, "w0,10000", 7);
        error(check, "w0,4294967297", 6);
        error(check, "w0,-1", 3);
        error(check, "w0,", 3);
    }

    @Sentence(of = "Section 6", says = NUMBER)
    static void section6TheNumberHasNoLeadingZeros(Check check) {
        error(check, "w0,01", 3);
        error(check, "w0,001", 3);
        error(check, "w0,0001", 3);
        error(check, "w0,01000", 3);
        error(check, "w0,00", 3);
        error(check, "w0,10", NONE);
        error(check, "w0,100", NONE);
    }

    @Sentence(of = "Section 6", says = NUMBER)
    static void section6TheNumberHasDigitsAlone(Check check) {
        for (char sign = 32; sign <= 126; sign++) {
            boolean digit = sign >= '0' && sign <= '9';
            error(check, "w0," + sign, sign >= '1' && sign <= '9' ? NONE : 3);
            error(check, "w0,1" + sign, digit ? NONE : sign == ';' ? 5 : 4);
            error(check, "w0,99" + sign, digit ? NONE : sign == ';' ? 6 : 5);
            error(check, "w0,100" + sign, sign == '0' ? NONE : sign == ';' ? 7 : 6);
            error(check, "w0" + sign, sign == ',' ? 3 : 2);
        }
    }

    @Sentence(of = "Section 6", says = "\"bt\": begin; - \"str\": request a SHARED lock; - \"xtr\": request an "
            + "EXCLUSIVE lock; - \"wt,n\": do work; - \"ct\": commit; - \"at\": roll back; - \"kt\": withdraw.")
    static void section6SevenCommandsAndNoOther(Check check) {
        for (char sign = 32; sign <= 126; sign++) {
            error(check, "" + sign, "bsxwcak".indexOf(sign) >= 0 ? 1 : 0);
            error(check, "b0;" + sign, "bsxwcak".indexOf(sign) >= 0 ? 4 : 3);
        }
        LockManager m = Setup.withText("b6;s68;x69;w6,5");
        check.due("b, s, x and w", 4, m.runText());
        check.due("shared and exclusive", "1 2", m.held(6, 8) + " " + m.held(6, 9));
        check.due("work", 7, m.workOf(6));
        LockManager ends = Setup.ran("b0;b1;b2;x00;w1,8;x10;c0");
        check.due("c", LockManager.IDLE, ends.state(0));
        Setup.run(ends, "s20;k2;a1");
        check.due("k", ACTIVE, ends.state(2));
        check.due("a", LockManager.IDLE, ends.state(1));
    }

    private static final String ERROR = "The error position of a text is the smallest index i such that no valid text "
            + "of any length begins with the characters 0 to i of the text.";

    @Sentence(of = "Section 6", says = ERROR)
    static void section6ErrorsFromTheFirstToTheLastIndex(Check check) {
        for (int i = 0; i < 80; i++) {
            error(check, FULL.substring(0, i) + "~" + FULL.substring(i + 1), i);
            error(check, FULL.substring(0, i) + "~", i);
        }
    }

    @Sentence(of = "Section 6", says = ERROR)
    static void section6TheSmallestOfSeveralErrors(Check check) {
        error(check, "b8;;~", 1);
        error(check, "b0;b8;~", 4);
        error(check, "~~~", 0);
        error(check, "w0,1001;b8", 6);
        error(check, "b0;s8", 4);
    }

    private static final String TOO_EARLY = "If there is no such index and the text is not valid (it ends too early, "
            + "or it is empty), the error position is the length of the text.";

    @Sentence(of = "Section 6", says = ERROR)
    static void section6AFullTextMayGoOnInALongerOne(Check check) {
        String most = "b0;".repeat(26);
        error(check, most + "s0", 80);
        error(check, most + "x7", 80);
        error(check, most + "w0", 80);
        error(check, "w0,1;".repeat(15) + "s00;b", 80);
        error(check, "w0,1;".repeat(16), 80);
        error(check, most + "s8", 79);
        error(check, most + "b8", 79);
    }

    @Sentence(of = "Section 6", says = TOO_EARLY)
    static void section6EndsTooEarlyAtEachLength(Check check) {
        error(check, "", 0);
        String text = "b0;s12;x34;w5,1000;c6;a7;k0";
        String valid = " 2 6 10 15 16 17 18 21 24 27 ";
        for (int length = 0; length <= text.length(); length++) {
            error(check, text.substring(0, length), valid.contains(" " + length + " ") ? NONE : length);
        }
    }

    // ---- Promise 8: appendText

    @Sentence(of = "Promise 8", says = "Appends a character to the text buffer.")
    static void promise8AppendsBehindTheLast(Check check) {
        LockManager m = new LockManager();
        m.appendText('b');
        check.due("the first", 1, m.errorPosition());
        m.appendText('7');
        check.due("the second", NONE, m.errorPosition());
        check.due("the command", 1, m.runText());
        check.due("state", ACTIVE, m.state(7));
        m.clearText();
        m.appendText('7');
        check.due("the first after clearText", 0, m.errorPosition());
    }

    @Sentence(of = "Promise 8", says = "`character`: a character code, 32 to 126")
    static void promise8TheFirstAndTheLastCharacter(Check check) {
        for (int sign = 32; sign <= 126; sign++) {
            LockManager m = new LockManager();
            check.due("appendText(" + sign + ")", 1, m.appendText(sign));
            check.due("textLength", 1, m.textLength());
        }
    }

    @Sentence(of = "Promise 8", says = "Returns the length of the text after the call.")
    static void promise8FromOneToEighty(Check check) {
        LockManager m = new LockManager();
        for (int i = 1; i <= 80; i++) {
            check.due("appendText " + i, i, m.appendText(32 + i));
        }
    }

    @Sentence(of = "Promise 8", says = "Throws `IllegalArgumentException` if the character code is out of range")
    static void promise8NoSuchCharacter(Check check) {
        for (int none : Refused.NO_CHARACTERS) {
            Refused.everywhere(check, Refused.ARGUMENT, "appendText(" + none + ")", m -> m.appendText(none));
        }
        Refused.in(check, Scenes::fresh, Refused.ARGUMENT, "appendText of b + 256", m -> m.appendText('b' + 256));
    }

    @Sentence(of = "Promise 8", says = "Throws `IllegalStateException` if the text has 80 characters")
    static void promise8TheEightyFirstCharacter(Check check) {
        Supplier<LockManager> one = () -> Setup.withText(FULL.substring(0, 79));
        check.due("the 80th", 80, one.get().appendText('0'));
        Supplier<LockManager> full = () -> Setup.withText(FULL);
        for (int sign : new int[] {32, 126, ';'}) {
            Refused.in(check, full, Refused.STATE, "appendText(" + sign + ")", m -> m.appendText(sign));
        }
        Refused.in(check, Scenes::crowded, Refused.STATE, "appendText to a full text", m -> m.appendText('0'));
        LockManager again = full.get();
        again.clearText();
        check.due("after clearText", 1, again.appendText('b'));
    }

    // ---- Promise 9: clearText

    @Sentence(of = "Promise 9", says = "Empties the text buffer.")
    static void promise9EmptiesAnEmptyAndAFullText(Check check) {
        for (String text : new String[] {"", "b", FULL}) {
            LockManager m = Setup.withText(text);
            m.clearText();
            check.due("textLength after clearText of " + text, 0, m.textLength());
            check.due("errorPosition after it", 0, m.errorPosition());
            Setup.append(m, "b3");
            check.due("the text begins anew", NONE, m.errorPosition());
            check.due("with one command", 1, m.runText());
        }
    }

    @Sentence(of = "Promise 9", says = "Returns the length of the text before the call.")
    static void promise9FromNoneToEighty(Check check) {
        for (int length = 0; length <= 80; length++) {
            LockManager m = Setup.withText(FULL.substring(0, length));
            check.due("clearText of " + length, length, m.clearText());
            check.due("clearText again", 0, m.clearText());
        }
    }

    // ---- Promise 10: errorPosition

    @Sentence(of = "Promise 10", says = "Checks the text.")
    static void promise10LeavesNoTrace(Check check) {
        for (Supplier<LockManager> scene : Scenes.ALL) {
            Traces.none(check, "errorPosition", scene, LockManager::errorPosition);
        }
        for (String text : new String[] {"~b0", "b0;~;b1", "b0;b1~", FULL.substring(0, 40) + "~"}) {
            Supplier<LockManager> wrong = () -> Setup.withText(text);
            Traces.none(check, "errorPosition of " + text, wrong, LockManager::errorPosition);
        }
    }

    @Sentence(of = "Promise 10", says = "Returns NONE if the text is valid, otherwise its error position.")
    static void promise10AnEmptyAValidAndAFullText(Check check) {
        error(check, "", 0);
        error(check, "b", 1);
        error(check, "b0", -1);
        error(check, FULL.substring(0, 78), 78);
        error(check, FULL.substring(0, 79), 79);
        error(check, FULL, -1);
    }

    // ---- Promise 11: runText

    private static void runs(Check check, String text, int due) {
        check.due("runText of " + text, due, Setup.withText(text).runText());
    }

    private static final String EXECUTES = "Executes the commands of the text in their order, as begin(), request(), "
            + "work(), commit(), rollBack() and withdraw() do.";

    @Sentence(of = "Promise 11", says = EXECUTES)
    static void promise11OneCommandAndTheMost(Check check) {
        LockManager one = Setup.withText("b7");
        check.due("one command", 1, one.runText());
        check.due("state", ACTIVE, one.state(7));
        LockManager most = Setup.withText("b0;" + "a0;b0;".repeat(12) + "a0;b0");
        check.due("27 commands", 27, most.runText());
        check.due("birthOf", 13, most.birthOf(0));
    }

    @Sentence(of = "Promise 11", says = EXECUTES)
    static void promise11DoesWhatTheMethodsDo(Check check) {
        LockManager text = Setup.ran("b0;b1;w0,1000;x00;x11;s10;x01;b2;x20;k2;b3;s29;a2;s38;x05;c0;b7;s39;x79;w3,1");
        LockManager calls = new LockManager();
        calls.begin(0);
        calls.begin(1);
        calls.work(0, 1000);
        calls.request(0, 0, LockManager.EXCLUSIVE);
        calls.request(1, 1, LockManager.EXCLUSIVE);
        calls.request(1, 0, LockManager.SHARED);
        calls.request(0, 1, LockManager.EXCLUSIVE);
        check.due("lostWork of the calls", 1, calls.lostWork());
        calls.begin(2);
        calls.request(2, 0, LockManager.EXCLUSIVE);
        calls.withdraw(2);
        calls.begin(3);
        calls.request(2, 9, LockManager.SHARED);
        calls.rollBack(2);
        calls.request(3, 8, LockManager.SHARED);
        calls.request(0, 5, LockManager.EXCLUSIVE);
        calls.commit(0);
        calls.begin(7);
        calls.request(3, 9, LockManager.SHARED);
        calls.request(7, 9, LockManager.EXCLUSIVE);
        calls.work(3, 1);
        check.due("the state", Snapshot.stateOf(calls), Snapshot.stateOf(text));
        LockManager works = Setup.ran("b0;w0,1;w0,10;w0,100;w0,1000");
        check.due("work from 1 to 1000", 1111, works.workOf(0));
    }

    private static final String ENDS = "Execution ends before the first command for which the method would throw an "
            + "exception.";

    @Sentence(of = "Promise 11", says = ENDS)
    static void promise11EndsAtTheFirstAMiddleOrTheLastCommand(Check check) {
        runs(check, "c0;b1;b2", 0);
        runs(check, "b1;c0;b2", 1);
        runs(check, "b1;b2;c0", 2);
        runs(check, "b1;b2;c1", 3);
        LockManager m = Setup.withText("b1;c0;b2");
        m.runText();
        check.due("what is ahead is done", ACTIVE, m.state(1));
        check.due("what is behind is not", LockManager.IDLE, m.state(2));
    }

    @Sentence(of = "Promise 11", says = ENDS)
    static void promise11EndsWhereEachMethodWouldThrow(Check check) {
        String[] idle = {"s00", "x00", "w0,1", "c0", "a0", "k0"};
        for (String command : idle) {
            runs(check, command + ";b1", 0);
        }
        runs(check, "b0;b0;b1", 1);
        runs(check, "b0;k0;b1", 1);
        String waiting = "b0;b1;x00;s10;";
        for (String command : new String[] {"s11", "x11", "w1,1", "c1", "b1"}) {
            runs(check, waiting + command + ";b2", 4);
        }
        for (String command : new String[] {"a1", "k1"}) {
            runs(check, waiting + command + ";b2", 6);
        }
    }

    @Sentence(of = "Promise 11", says = "The text stays in the buffer.")
    static void promise11TheTextStays(Check check) {
        for (String text : new String[] {"c0", "b0", FULL}) {
            LockManager m = Setup.withText(text);
            int executed = m.runText();
            check.due("textLength of " + text, text.length(), m.textLength());
            check.due("errorPosition", NONE, m.errorPosition());
            m.undo();
            check.due("it runs as before", executed, m.runText());
        }
    }

    @Sentence(of = "Promise 11", says = "Undoable, as one call, also if no command is executed.")
    static void promise11IsUndoableAsOneCall(Check check) {
        Undoable.in(check, () -> Setup.withText("c0"), "a text that does nothing", LockManager::runText);
        Undoable.in(check, () -> Setup.withText("b0;w0,5;s00;c0"), "a text that does much", LockManager::runText);
        Undoable.in(check, Scenes::crowded, "a full text", LockManager::runText);
        Supplier<LockManager> nothing = () -> fullHistoryWith("c7");
        Undoable.in(check, nothing, "a ninth text that does nothing", LockManager::runText);
        Supplier<LockManager> much = () -> fullHistoryWith("b7;w0,5;k1");
        Undoable.in(check, much, "a ninth text that does much", LockManager::runText);
    }

    private static LockManager fullHistoryWith(String text) {
        LockManager m = Scenes.busy();
        m.clearText();
        Setup.append(m, text);
        return m;
    }

    @Sentence(of = "Promise 11", says = "Returns the number of commands that are executed.")
    static void promise11FromNoneToTwentySeven(Check check) {
        runs(check, "k0", 0);
        runs(check, "b0", 1);
        runs(check, FULL, 1);
        runs(check, "b0;" + "a0;b0;".repeat(12) + "a0", 26);
        runs(check, "b0;" + "a0;b0;".repeat(12) + "a0;b0", 27);
    }

    @Sentence(of = "Promise 11", says = "Throws `IllegalStateException` if the text is not valid")
    static void promise11NoValidText(Check check) {
        String[] texts = {"", "b", "b0;", ";b0", "b0;;b1", "b0b1", "b8", "b0;s0", "w0,0", "w0,1001", "w0,01",
            FULL.substring(0, 79), FULL.substring(0, 78) + "s0", "b0 "};
        for (String text : texts) {
            Supplier<LockManager> made = () -> Setup.withText(text);
            Refused.in(check, made, Refused.STATE, "runText of \"" + text + "\"", LockManager::runText);
        }
        Refused.in(check, Scenes::busy, Refused.STATE, "runText with a full history", LockManager::runText);
    }

    // ---- Promise 30: textLength

    @Sentence(of = "Promise 30", says = "Returns the length of the text.")
    static void promise30FromNoneToEighty(Check check) {
        for (int length = 0; length <= 80; length++) {
            check.due("textLength", length, Setup.withText(FULL.substring(0, length)).textLength());
        }
    }
}
