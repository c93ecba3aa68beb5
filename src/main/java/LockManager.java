/**
 * A lock manager for transactions (strict two-phase locking) that finds deadlocks when a request
 * has to wait, and that breaks each of them by aborting the transaction of the ring that has done
 * the least work.
 */
public final class LockManager {
    public static final int NONE = -1;
    public static final int IDLE = 0, ACTIVE = 1, WAITING = 2;
    public static final int SHARED = 1, EXCLUSIVE = 2;
    public static final int GRANTED = 1, QUEUED = 2, ABORTED = 3;

    private static final int TRANSACTIONS = 8;
    private static final int RESOURCES = 10;
    private static final int UNLOCKED = 0;
    private static final int MOST_WORK = 1000;
    private static final int MOST_WORK_DIGITS = 4;
    private static final int ABORTS_OF_SPARED = 2;
    private static final int FIRST_SIGN = 32;
    private static final int LAST_SIGN = 126;
    private static final int MOST_SIGNS = 80;
    private static final int MOST_SAVED = 8;

    private final LockTable table = new LockTable();
    // The questions of what would happen are answered on this copy, so that they change nothing.
    private final LockTable trial = new LockTable();
    private final RingBreaker breaker = new RingBreaker();
    private final History history = new History();
    private final CommandText text = new CommandText();

    public LockManager() {
    }

    // ---- transactions

    public int begin(int transaction) throws IndexOutOfBoundsException, IllegalStateException {
        requireTransaction(transaction);
        requireState(table.stateNow(transaction) == IDLE);
        history.save(table);
        table.start(transaction);
        return table.births[transaction];
    }

    public int request(int transaction, int resource, int mode)
            throws IndexOutOfBoundsException, IllegalArgumentException, IllegalStateException {
        requireRequest(transaction, resource, mode);
        requireState(table.stateNow(transaction) == ACTIVE);
        history.save(table);
        ask(table, transaction, resource, mode);
        return table.outcome(transaction, resource, mode);
    }

    public int work(int transaction, int amount)
            throws IndexOutOfBoundsException, IllegalArgumentException, IllegalStateException {
        requireTransaction(transaction);
        if (amount < 1 || amount > MOST_WORK) {
            throw new IllegalArgumentException("the amount is not 1 to 1000");
        }
        requireState(table.stateNow(transaction) == ACTIVE);
        history.save(table);
        table.works[transaction] += amount;
        return table.works[transaction];
    }

    public int withdraw(int transaction) throws IndexOutOfBoundsException, IllegalStateException {
        requireTransaction(transaction);
        requireState(table.stateNow(transaction) == WAITING);
        history.save(table);
        return table.takeBack(transaction);
    }

    public int commit(int transaction) throws IndexOutOfBoundsException, IllegalStateException {
        requireTransaction(transaction);
        requireState(table.stateNow(transaction) == ACTIVE);
        history.save(table);
        return table.end(transaction);
    }

    public int rollBack(int transaction) throws IndexOutOfBoundsException, IllegalStateException {
        requireTransaction(transaction);
        requireState(table.stateNow(transaction) != IDLE);
        history.save(table);
        return table.end(transaction);
    }

    // ---- texts

    public int appendText(int character) throws IllegalArgumentException, IllegalStateException {
        if (character < FIRST_SIGN || character > LAST_SIGN) {
            throw new IllegalArgumentException("the character code is not 32 to 126");
        }
        if (text.length >= MOST_SIGNS) {
            throw new IllegalStateException("the text has 80 characters");
        }
        text.add(character);
        return text.length;
    }

    public int clearText() {
        int before = text.length;
        text.length = 0;
        return before;
    }

    public int errorPosition() {
        return text.findError();
    }

    public int runText() throws IllegalStateException {
        if (text.findError() != NONE) {
            throw new IllegalStateException("the text is not valid");
        }
        history.save(table);
        text.rewind();
        int executed = 0;
        while (executed < MOST_SIGNS && text.readCommand() && isAllowed(text.kind, text.transaction)) {
            carryOut(text.kind, text.transaction, text.operand);
            executed++;
            text.readSign(';');
        }
        return executed;
    }

    // ---- undo

    public int undo() throws IllegalStateException {
        if (history.count == 0) {
            throw new IllegalStateException("there is no saved state");
        }
        history.restore(table);
        return history.count;
    }

    // ---- queries about transactions

    public int state(int transaction) throws IndexOutOfBoundsException {
        requireTransaction(transaction);
        return table.stateNow(transaction);
    }

    public int workOf(int transaction) throws IndexOutOfBoundsException {
        requireTransaction(transaction);
        return table.works[transaction];
    }

    public int abortsOf(int transaction) throws IndexOutOfBoundsException {
        requireTransaction(transaction);
        return table.aborts[transaction];
    }

    public int birthOf(int transaction) throws IndexOutOfBoundsException {
        requireTransaction(transaction);
        return table.births[transaction];
    }

    public int held(int transaction, int resource) throws IndexOutOfBoundsException {
        requireTransaction(transaction);
        requireResource(resource);
        return table.locks[transaction * RESOURCES + resource];
    }

    public int awaited(int transaction) throws IndexOutOfBoundsException {
        requireTransaction(transaction);
        return table.wantedResources[transaction];
    }

    public int waitsFor(int transaction) throws IndexOutOfBoundsException {
        requireTransaction(transaction);
        return table.waitedFor(transaction);
    }

    public int blockers(int transaction) throws IndexOutOfBoundsException {
        requireTransaction(transaction);
        return Integer.bitCount(table.allWaitedFor(transaction) & ~(1 << transaction));
    }

    // ---- queries about resources

    public int holders(int resource) throws IndexOutOfBoundsException {
        requireResource(resource);
        return table.holderSet(resource);
    }

    public int queueLength(int resource) throws IndexOutOfBoundsException {
        requireResource(resource);
        return table.lengths[resource];
    }

    public int queued(int resource, int index) throws IndexOutOfBoundsException {
        requireResource(resource);
        if (index < 0) {
            throw new IndexOutOfBoundsException("the index is negative");
        }
        if (index >= table.lengths[resource]) {
            return NONE;
        }
        int transaction = table.queues[resource * TRANSACTIONS + index];
        return 10 * transaction + table.wantedModes[transaction];
    }

    // ---- queries about what would happen

    public int ifRequested(int transaction, int resource, int mode)
            throws IndexOutOfBoundsException, IllegalArgumentException {
        requireRequest(transaction, resource, mode);
        if (table.stateNow(transaction) != ACTIVE) {
            return NONE;
        }
        trial.copyFrom(table);
        ask(trial, transaction, resource, mode);
        return trial.outcome(transaction, resource, mode);
    }

    public int victimsOf(int transaction, int resource, int mode)
            throws IndexOutOfBoundsException, IllegalArgumentException {
        requireRequest(transaction, resource, mode);
        if (table.stateNow(transaction) != ACTIVE) {
            return 0;
        }
        trial.copyFrom(table);
        return ask(trial, transaction, resource, mode);
    }

    // ---- queries about the whole manager

    public int brokenRings() {
        return table.rings;
    }

    public int lostWork() {
        return table.lost;
    }

    public int locksHeld() {
        int count = 0;
        for (int resource = 0; resource < RESOURCES; resource++) {
            count += Integer.bitCount(table.holderSet(resource));
        }
        return count;
    }

    public int savedStates() {
        return history.count;
    }

    public int textLength() {
        return text.length;
    }

    // ---- what the calls above share

    private static void requireTransaction(int transaction) {
        if (transaction < 0 || transaction >= TRANSACTIONS) {
            throw new IndexOutOfBoundsException("there is no such transaction");
        }
    }

    private static void requireResource(int resource) {
        if (resource < 0 || resource >= RESOURCES) {
            throw new IndexOutOfBoundsException("there is no such resource");
        }
    }

    private static void requireRequest(int transaction, int resource, int mode) {
        requireTransaction(transaction);
        requireResource(resource);
        if (mode != SHARED && mode != EXCLUSIVE) {
            throw new IllegalArgumentException("the mode is neither SHARED nor EXCLUSIVE");
        }
    }

    private static void requireState(boolean right) {
        if (!right) {
            throw new IllegalStateException("the transaction is in another state");
        }
    }

    /** Handles the request of an active transaction on a table; returns the set of the victims. */
    private int ask(LockTable where, int transaction, int resource, int mode) {
        boolean mustWait = where.place(transaction, resource, mode);
        return mustWait ? breaker.breakRings(where, transaction) : 0;
    }

    /** Whether the method of a command would throw nothing now; its numbers are in range already. */
    private boolean isAllowed(int kind, int transaction) {
        int state = table.stateNow(transaction);
        switch (kind) {
            case 'b':
                return state == IDLE;
            case 'k':
                return state == WAITING;
            case 'a':
                return state != IDLE;
            default:
                return state == ACTIVE;
        }
    }

    private void carryOut(int kind, int transaction, int operand) {
        switch (kind) {
            case 'b':
                table.start(transaction);
                break;
            case 's':
                ask(table, transaction, operand, SHARED);
                break;
            case 'x':
                ask(table, transaction, operand, EXCLUSIVE);
                break;
            case 'w':
                table.works[transaction] += operand;
                break;
            case 'k':
                table.takeBack(transaction);
                break;
            default:
                table.end(transaction);
                break;
        }
    }

    /**
     * The state that undo() restores: transactions, locks, queues and statistics. A set of
     * transactions is a number with bit t for the transaction t.
     */
    private static final class LockTable {
        // These three are NONE for an idle transaction.
        final int[] births = new int[TRANSACTIONS];
        final int[] works = new int[TRANSACTIONS];
        final int[] aborts = new int[TRANSACTIONS];
        // The request of a waiting transaction; the resource is NONE for any other transaction.
        final int[] wantedResources = new int[TRANSACTIONS];
        final int[] wantedModes = new int[TRANSACTIONS];
        // One row of resources for each transaction.
        final int[] locks = new int[TRANSACTIONS * RESOURCES];
        // One row of places for each resource; a transaction has one request, so a row is enough.
        final int[] queues = new int[RESOURCES * TRANSACTIONS];
        final int[] lengths = new int[RESOURCES];
        int nextBirth;
        int rings;
        int lost;

        LockTable() {
            for (int t = 0; t < TRANSACTIONS; t++) {
                births[t] = NONE;
                works[t] = NONE;
                aborts[t] = NONE;
                wantedResources[t] = NONE;
            }
        }

        void copyFrom(LockTable other) {
            System.arraycopy(other.births, 0, births, 0, TRANSACTIONS);
            System.arraycopy(other.works, 0, works, 0, TRANSACTIONS);
            System.arraycopy(other.aborts, 0, aborts, 0, TRANSACTIONS);
            System.arraycopy(other.wantedResources, 0, wantedResources, 0, TRANSACTIONS);
            System.arraycopy(other.wantedModes, 0, wantedModes, 0, TRANSACTIONS);
            System.arraycopy(other.locks, 0, locks, 0, TRANSACTIONS * RESOURCES);
            System.arraycopy(other.queues, 0, queues, 0, RESOURCES * TRANSACTIONS);
            System.arraycopy(other.lengths, 0, lengths, 0, RESOURCES);
            nextBirth = other.nextBirth;
            rings = other.rings;
            lost = other.lost;
        }

        int stateNow(int transaction) {
            if (births[transaction] == NONE) {
                return IDLE;
            }
            return wantedResources[transaction] == NONE ? ACTIVE : WAITING;
        }

        /** What request() tells of a request after it has been handled. */
        int outcome(int transaction, int resource, int mode) {
            int lock = locks[transaction * RESOURCES + resource];
            if (lock == mode || lock == EXCLUSIVE) {
                return GRANTED;
            }
            return wantedResources[transaction] == NONE ? ABORTED : QUEUED;
        }

        int holderSet(int resource) {
            int holders = 0;
            for (int t = 0; t < TRANSACTIONS; t++) {
                if (locks[t * RESOURCES + resource] != UNLOCKED) {
                    holders |= 1 << t;
                }
            }
            return holders;
        }

        /** The other transactions with a lock on the resource that is not compatible with the mode. */
        private int rivalHolders(int transaction, int resource, int mode) {
            int rivals = 0;
            for (int t = 0; t < TRANSACTIONS; t++) {
                int lock = locks[t * RESOURCES + resource];
                boolean compatible = lock == UNLOCKED || lock == SHARED && mode == SHARED;
                if (t != transaction && !compatible) {
                    rivals |= 1 << t;
                }
            }
            return rivals;
        }

        /** The transactions ahead in the queue where at least one of the two requests is EXCLUSIVE. */
        private int rivalsAhead(int transaction, int resource) {
            int rivals = 0;
            int row = resource * TRANSACTIONS;
            for (int i = 0; i < lengths[resource]; i++) {
                int other = queues[row + i];
                if (other == transaction) {
                    break;
                }
                if (wantedModes[transaction] == EXCLUSIVE || wantedModes[other] == EXCLUSIVE) {
                    rivals |= 1 << other;
                }
            }
            return rivals;
        }

        int waitedFor(int transaction) {
            int resource = wantedResources[transaction];
            if (resource == NONE) {
                return 0;
            }
            return rivalHolders(transaction, resource, wantedModes[transaction])
                    | rivalsAhead(transaction, resource);
        }

        /** Those for which the transaction waits, those for which these wait, and so on. */
        int allWaitedFor(int transaction) {
            int reached = waitedFor(transaction);
            for (int round = 1; round < TRANSACTIONS; round++) {
                for (int t = 0; t < TRANSACTIONS; t++) {
                    if ((reached >> t & 1) == 1) {
                        reached |= waitedFor(t);
                    }
                }
            }
            return reached;
        }

        void start(int transaction) {
            births[transaction] = nextBirth;
            works[transaction] = 0;
            aborts[transaction] = 0;
            nextBirth++;
        }

        /** Grants the request of an active transaction or puts it into a queue; tells if it has to wait. */
        boolean place(int transaction, int resource, int mode) {
            int lock = locks[transaction * RESOURCES + resource];
            if (lock == mode || lock == EXCLUSIVE) {
                return false;
            }
            boolean upgrade = lock == SHARED;
            boolean mayPass = upgrade || lengths[resource] == 0;
            if (mayPass && rivalHolders(transaction, resource, mode) == 0) {
                grant(transaction, resource, mode);
                return false;
            }
            int index = upgrade ? countUpgrades(resource) : lengths[resource];
            insertRequest(transaction, resource, index);
            wantedModes[transaction] = mode;
            return true;
        }

        private void grant(int transaction, int resource, int mode) {
            locks[transaction * RESOURCES + resource] = mode;
            works[transaction]++;
        }

        private int countUpgrades(int resource) {
            int upgrades = 0;
            for (int i = 0; i < lengths[resource]; i++) {
                int transaction = queues[resource * TRANSACTIONS + i];
                if (locks[transaction * RESOURCES + resource] == SHARED) {
                    upgrades++;
                }
            }
            return upgrades;
        }

        private void insertRequest(int transaction, int resource, int index) {
            int row = resource * TRANSACTIONS;
            for (int i = lengths[resource]; i > index; i--) {
                queues[row + i] = queues[row + i - 1];
            }
            queues[row + index] = transaction;
            lengths[resource]++;
            wantedResources[transaction] = resource;
        }

        private void removeRequest(int transaction) {
            int resource = wantedResources[transaction];
            if (resource == NONE) {
                return;
            }
            int row = resource * TRANSACTIONS;
            int kept = 0;
            for (int i = 0; i < lengths[resource]; i++) {
                int other = queues[row + i];
                if (other != transaction) {
                    queues[row + kept] = other;
                    kept++;
                }
            }
            lengths[resource] = kept;
            wantedResources[transaction] = NONE;
        }

        private void releaseLocks(int transaction) {
            for (int resource = 0; resource < RESOURCES; resource++) {
                locks[transaction * RESOURCES + resource] = UNLOCKED;
            }
        }

        /** Grants what can be granted from the heads of the queues; returns how many requests. */
        int serveQueues() {
            int granted = 0;
            for (int resource = 0; resource < RESOURCES; resource++) {
                for (int i = 0; i < TRANSACTIONS && serveFirst(resource); i++) {
                    granted++;
                }
            }
            return granted;
        }

        private boolean serveFirst(int resource) {
            if (lengths[resource] == 0) {
                return false;
            }
            int transaction = queues[resource * TRANSACTIONS];
            int mode = wantedModes[transaction];
            if (rivalHolders(transaction, resource, mode) != 0) {
                return false;
            }
            removeRequest(transaction);
            grant(transaction, resource, mode);
            return true;
        }

        int takeBack(int transaction) {
            removeRequest(transaction);
            return serveQueues();
        }

        /** Ends a transaction, whether it commits or is rolled back; returns how many requests are granted. */
        int end(int transaction) {
            removeRequest(transaction);
            releaseLocks(transaction);
            births[transaction] = NONE;
            works[transaction] = NONE;
            aborts[transaction] = NONE;
            return serveQueues();
        }

        void abort(int victim) {
            removeRequest(victim);
            releaseLocks(victim);
            rings++;
            lost += works[victim];
            works[victim] = 0;
            aborts[victim]++;
        }
    }

    /** Finds the rings of a waiting transaction and breaks them. */
    private static final class RingBreaker {
        // A distance that no transaction has that reaches the start of the ring.
        private static final int FAR = TRANSACTIONS;

        private final int[] waits = new int[TRANSACTIONS];
        private final int[] distances = new int[TRANSACTIONS];

        /** Returns the set of the victims. */
        int breakRings(LockTable table, int transaction) {
            int victims = 0;
            // A victim waits no longer, so there are no more rounds than transactions.
            for (int round = 0; round < TRANSACTIONS; round++) {
                measure(table, transaction);
                int victim = chooseVictim(table, shortestRing(transaction));
                if (victim == NONE) {
                    break;
                }
                table.abort(victim);
                table.serveQueues();
                victims |= 1 << victim;
            }
            return victims;
        }

        /** Finds for each transaction in how few steps of waiting it comes to the start. */
        private void measure(LockTable table, int start) {
            for (int t = 0; t < TRANSACTIONS; t++) {
                waits[t] = table.waitedFor(t);
                distances[t] = t == start ? 0 : FAR;
            }
            int reached = 1 << start;
            for (int distance = 1; distance < FAR; distance++) {
                int next = 0;
                for (int t = 0; t < TRANSACTIONS; t++) {
                    if (distances[t] == FAR && (waits[t] & reached) != 0) {
                        distances[t] = distance;
                        next |= 1 << t;
                    }
                }
                reached = next;
            }
        }

        /**
         * The members of the ring that is examined, 0 if there is none. Going to the lowest of the
         * nearest ones at each step gives the first of the shortest sequences.
         */
        private int shortestRing(int start) {
            int ring = 0;
            int member = start;
            for (int steps = 0; steps < TRANSACTIONS; steps++) {
                ring |= 1 << member;
                member = nearest(waits[member]);
                if (member == start) {
                    return ring;
                }
                if (member == NONE) {
                    break;
                }
            }
            return 0;
        }

        /** The lowest of those in the set that are nearest to the start; NONE if none comes there. */
        private int nearest(int set) {
            int best = NONE;
            int least = FAR;
            for (int t = 0; t < TRANSACTIONS; t++) {
                if ((set >> t & 1) == 1 && distances[t] < least) {
                    best = t;
                    least = distances[t];
                }
            }
            return best;
        }

        /** NONE if the ring has no members. */
        private int chooseVictim(LockTable table, int ring) {
            int victim = NONE;
            for (int t = 0; t < TRANSACTIONS; t++) {
                boolean member = (ring >> t & 1) == 1;
                if (member && (victim == NONE || goesBefore(table, t, victim))) {
                    victim = t;
                }
            }
            return victim;
        }

        /** Whether the first transaction is rather the victim than the second one. */
        private boolean goesBefore(LockTable table, int first, int second) {
            boolean firstSpared = table.aborts[first] >= ABORTS_OF_SPARED;
            boolean secondSpared = table.aborts[second] >= ABORTS_OF_SPARED;
            if (firstSpared != secondSpared) {
                return secondSpared;
            }
            if (table.works[first] != table.works[second]) {
                return table.works[first] < table.works[second];
            }
            return table.births[first] > table.births[second];
        }
    }

    /** The states that undo() can restore: a ring of rows, in which a new one takes the oldest one's place. */
    private static final class History {
        private final LockTable[] rows = new LockTable[MOST_SAVED];
        private int next;
        int count;

        History() {
            for (int i = 0; i < MOST_SAVED; i++) {
                rows[i] = new LockTable();
            }
        }

        void save(LockTable table) {
            rows[next].copyFrom(table);
            next = next == MOST_SAVED - 1 ? 0 : next + 1;
            if (count < MOST_SAVED) {
                count++;
            }
        }

        void restore(LockTable table) {
            next = next == 0 ? MOST_SAVED - 1 : next - 1;
            count--;
            table.copyFrom(rows[next]);
        }
    }

    /** The text buffer, and a reader that goes through its commands. */
    private static final class CommandText {
        private final int[] signs = new int[MOST_SIGNS];
        int length;
        private int position;
        // The command that was read last; the operand is its resource or its amount of work.
        int kind;
        int transaction;
        int operand;

        void add(int sign) {
            if (length < MOST_SIGNS) {
                signs[length] = sign;
                length++;
            }
        }

        void rewind() {
            position = 0;
        }

        /**
         * The error position, NONE if the text is valid. The reader stops at the first character
         * with which no valid text goes on, or at the end: both are the error position.
         */
        int findError() {
            rewind();
            for (int commands = 0; commands < MOST_SIGNS && readCommand(); commands++) {
                if (position == length) {
                    return NONE;
                }
                if (!readSign(';')) {
                    break;
                }
            }
            return position;
        }

        /** Reads a command; if there is none, the position is where the text goes wrong. */
        boolean readCommand() {
            if (!readKind()) {
                return false;
            }
            transaction = readDigit(TRANSACTIONS - 1);
            if (transaction == NONE) {
                return false;
            }
            switch (kind) {
                case 's':
                case 'x':
                    operand = readDigit(RESOURCES - 1);
                    return operand != NONE;
                case 'w':
                    return readSign(',') && readAmount();
                default:
                    return true;
            }
        }

        private boolean readKind() {
            kind = signHere();
            switch (kind) {
                case 'b':
                case 's':
                case 'x':
                case 'w':
                case 'c':
                case 'a':
                case 'k':
                    position++;
                    return true;
                default:
                    return false;
            }
        }

        boolean readSign(int sign) {
            if (signHere() != sign) {
                return false;
            }
            position++;
            return true;
        }

        private int readDigit(int greatest) {
            int digit = signHere() - '0';
            if (digit < 0 || digit > greatest) {
                return NONE;
            }
            position++;
            return digit;
        }

        /** Reads as many digits as give a number from 1 to 1000: a zero in front gives none. */
        private boolean readAmount() {
            operand = 0;
            for (int digits = 0; digits < MOST_WORK_DIGITS; digits++) {
                int digit = signHere() - '0';
                int amount = operand * 10 + digit;
                if (digit < 0 || digit > 9 || amount < 1 || amount > MOST_WORK) {
                    break;
                }
                operand = amount;
                position++;
            }
            return operand > 0;
        }

        /** NONE at the end of the text. */
        private int signHere() {
            return position < length ? signs[position] : NONE;
        }
    }
}
