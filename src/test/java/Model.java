import java.util.ArrayDeque;
import java.util.ArrayList;
import java.util.Arrays;
import java.util.Deque;
import java.util.HashMap;
import java.util.List;
import java.util.Map;
import java.util.TreeMap;
import java.util.TreeSet;
import java.util.regex.Pattern;

/**
 * The document once more, in the plainest form and with none of the program's code: rings are
 * found by trying all sequences, texts are checked by a pattern. A refused call answers one of the
 * three numbers below.
 */
final class Model {
    static final int BOUNDS = -1001;
    static final int ARGUMENT = -1002;
    static final int STATE = -1003;

    private static final String COMMAND = "([bcak][0-7]|[sx][0-7][0-9]|w[0-7],([1-9][0-9]{0,2}|1000))";
    private static final Pattern TEXT = Pattern.compile(COMMAND + "(;" + COMMAND + ")*");
    private static final String[] ENDINGS = {"", "b0", "0", "00", "0,1", ",1", "1"};

    private static final class Life {
        int work;
        int aborts;
        int birth;
        final Map<Integer, Integer> locks = new HashMap<>();
    }

    private record Request(int transaction, int mode) {
    }

    private Map<Integer, Life> lives = new TreeMap<>();
    private List<List<Request>> queues = new ArrayList<>();
    private int nextBirth;
    private int lost;
    private int rings;
    private final Deque<Model> saved = new ArrayDeque<>();
    private String text = "";

    Model() {
        for (int r = 0; r < 10; r++) {
            queues.add(new ArrayList<>());
        }
    }

    private Model copy() {
        Model copy = new Model();
        copy.takeStateOf(this);
        return copy;
    }

    private void takeStateOf(Model other) {
        lives = new TreeMap<>();
        other.lives.forEach((t, life) -> {
            Life twin = new Life();
            twin.work = life.work;
            twin.aborts = life.aborts;
            twin.birth = life.birth;
            twin.locks.putAll(life.locks);
            lives.put(t, twin);
        });
        queues = new ArrayList<>();
        other.queues.forEach(queue -> queues.add(new ArrayList<>(queue)));
        nextBirth = other.nextBirth;
        lost = other.lost;
        rings = other.rings;
    }

    private void save() {
        saved.addLast(copy());
        if (saved.size() > 8) {
            saved.removeFirst();
        }
    }

    // ---- transactions

    int begin(int t) {
        int fault = t < 0 || t > 7 ? BOUNDS : state(t) != 0 ? STATE : 0;
        if (fault != 0) {
            return fault;
        }
        save();
        return doBegin(t);
    }

    private int doBegin(int t) {
        Life life = new Life();
        life.birth = nextBirth++;
        lives.put(t, life);
        return life.birth;
    }

    int request(int t, int r, int mode) {
        int fault = requestFault(t, r, mode);
        if (fault != 0 || state(t) != 1) {
            return fault != 0 ? fault : STATE;
        }
        save();
        return doRequest(t, r, mode, new TreeSet<>());
    }

    private static int requestFault(int t, int r, int mode) {
        if (t < 0 || t > 7 || r < 0 || r > 9) {
            return BOUNDS;
        }
        return mode == 1 || mode == 2 ? 0 : ARGUMENT;
    }

    private int doRequest(int t, int r, int mode, TreeSet<Integer> victims) {
        Life life = lives.get(t);
        int lock = life.locks.getOrDefault(r, 0);
        if (lock == mode || lock == 2) {
            return 1;
        }
        if (lock == 1) {
            if (holders(r) == 1 << t) {
                grant(t, r, mode);
                return 1;
            }
            int place = 0;
            while (place < queues.get(r).size() && isUpgrade(queues.get(r).get(place), r)) {
                place++;
            }
            queues.get(r).add(place, new Request(t, mode));
        } else if (queues.get(r).isEmpty() && isCompatible(t, r, mode)) {
            grant(t, r, mode);
            return 1;
        } else {
            queues.get(r).add(new Request(t, mode));
        }
        breakRings(t, victims);
        return victims.contains(t) ? 3 : state(t) == 2 ? 2 : 1;
    }

    private boolean isUpgrade(Request request, int r) {
        return lives.get(request.transaction).locks.getOrDefault(r, 0) == 1;
    }

    private void grant(int t, int r, int mode) {
        lives.get(t).locks.put(r, mode);
        lives.get(t).work++;
    }

    private boolean isCompatible(int t, int r, int mode) {
        for (Map.Entry<Integer, Life> entry : lives.entrySet()) {
            int lock = entry.getValue().locks.getOrDefault(r, 0);
            if (entry.getKey() != t && lock != 0 && lock + mode > 2) {
                return false;
            }
        }
        return true;
    }

    private void breakRings(int t, TreeSet<Integer> victims) {
        while (state(t) == 2) {
            List<List<Integer>> found = new ArrayList<>();
            collectRings(new ArrayList<>(List.of(t)), found);
            if (found.isEmpty()) {
                return;
            }
            found.sort((a, b) -> a.size() != b.size() ? a.size() - b.size() : a.toString().compareTo(b.toString()));
            int victim = victimOf(found.get(0));
            victims.add(victim);
            rings++;
            lost += lives.get(victim).work;
            lives.get(victim).work = 0;
            lives.get(victim).aborts++;
            lives.get(victim).locks.clear();
            removeRequest(victim);
            serve();
        }
    }

    private void collectRings(List<Integer> path, List<List<Integer>> found) {
        int waits = waitsFor(path.get(path.size() - 1));
        for (int u = 0; u < 8; u++) {
            if ((waits & 1 << u) == 0) {
                continue;
            }
            if (u == path.get(0)) {
                found.add(new ArrayList<>(path));
            } else if (!path.contains(u)) {
                path.add(u);
                collectRings(path, found);
                path.remove(path.size() - 1);
            }
        }
    }

    private int victimOf(List<Integer> ring) {
        List<Integer> choice = new ArrayList<>(ring);
        choice.removeIf(t -> lives.get(t).aborts >= 2);
        if (choice.isEmpty()) {
            choice = new ArrayList<>(ring);
        }
        choice.sort((a, b) -> {
            Life x = lives.get(a);
            Life y = lives.get(b);
            return x.work != y.work ? Integer.compare(x.work, y.work) : Integer.compare(y.birth, x.birth);
        });
        return choice.get(0);
    }

    private void removeRequest(int t) {
        queues.forEach(queue -> queue.removeIf(request -> request.transaction == t));
    }

    private int serve() {
        int granted = 0;
        for (int r = 0; r < 10; r++) {
            List<Request> queue = queues.get(r);
            while (!queue.isEmpty() && isCompatible(queue.get(0).transaction, r, queue.get(0).mode)) {
                Request request = queue.remove(0);
                grant(request.transaction, r, request.mode);
                granted++;
            }
        }
        return granted;
    }

    int work(int t, int amount) {
        if (t < 0 || t > 7) {
            return BOUNDS;
        }
        if (amount < 1 || amount > 1000) {
            return ARGUMENT;
        }
        if (state(t) != 1) {
            return STATE;
        }
        save();
        return lives.get(t).work += amount;
    }

    int withdraw(int t) {
        if (t < 0 || t > 7) {
            return BOUNDS;
        }
        if (state(t) != 2) {
            return STATE;
        }
        save();
        removeRequest(t);
        return serve();
    }

    int commit(int t) {
        if (t < 0 || t > 7) {
            return BOUNDS;
        }
        if (state(t) != 1) {
            return STATE;
        }
        save();
        return doEnd(t);
    }

    int rollBack(int t) {
        if (t < 0 || t > 7) {
            return BOUNDS;
        }
        if (state(t) == 0) {
            return STATE;
        }
        save();
        return doEnd(t);
    }

    private int doEnd(int t) {
        removeRequest(t);
        lives.remove(t);
        return serve();
    }

    // ---- texts

    int appendText(int sign) {
        if (sign < 32 || sign > 126) {
            return ARGUMENT;
        }
        if (text.length() == 80) {
            return STATE;
        }
        text += (char) sign;
        return text.length();
    }

    int clearText() {
        int before = text.length();
        text = "";
        return before;
    }

    int errorPosition() {
        if (isValid(text)) {
            return -1;
        }
        for (int i = 0; i < text.length(); i++) {
            String start = text.substring(0, i + 1);
            if (Arrays.stream(ENDINGS).noneMatch(ending -> isValid(start + ending))) {
                return i;
            }
        }
        return text.length();
    }

    private static boolean isValid(String whole) {
        return TEXT.matcher(whole).matches();
    }

    int runText() {
        if (!isValid(text)) {
            return STATE;
        }
        save();
        int executed = 0;
        for (String command : text.split(";")) {
            if (!execute(command)) {
                break;
            }
            executed++;
        }
        return executed;
    }

    private boolean execute(String command) {
        int t = command.charAt(1) - '0';
        int state = state(t);
        char kind = command.charAt(0);
        int needed = kind == 'b' ? 0 : kind == 'k' ? 2 : kind == 'a' && state == 2 ? 2 : 1;
        if (state != needed) {
            return false;
        }
        if (kind == 'b') {
            doBegin(t);
        } else if (kind == 's' || kind == 'x') {
            doRequest(t, command.charAt(2) - '0', kind == 's' ? 1 : 2, new TreeSet<>());
        } else if (kind == 'w') {
            lives.get(t).work += Integer.parseInt(command.substring(3));
        } else if (kind == 'k') {
            removeRequest(t);
            serve();
        } else {
            doEnd(t);
        }
        return true;
    }

    // ---- undo

    int undo() {
        if (saved.isEmpty()) {
            return STATE;
        }
        takeStateOf(saved.removeLast());
        return saved.size();
    }

    // ---- queries

    int state(int t) {
        if (t < 0 || t > 7) {
            return BOUNDS;
        }
        return !lives.containsKey(t) ? 0 : awaited(t) == -1 ? 1 : 2;
    }

    int workOf(int t) {
        return t < 0 || t > 7 ? BOUNDS : lives.containsKey(t) ? lives.get(t).work : -1;
    }

    int abortsOf(int t) {
        return t < 0 || t > 7 ? BOUNDS : lives.containsKey(t) ? lives.get(t).aborts : -1;
    }

    int birthOf(int t) {
        return t < 0 || t > 7 ? BOUNDS : lives.containsKey(t) ? lives.get(t).birth : -1;
    }

    int held(int t, int r) {
        if (t < 0 || t > 7 || r < 0 || r > 9) {
            return BOUNDS;
        }
        return lives.containsKey(t) ? lives.get(t).locks.getOrDefault(r, 0) : 0;
    }

    int awaited(int t) {
        if (t < 0 || t > 7) {
            return BOUNDS;
        }
        for (int r = 0; r < 10; r++) {
            if (queues.get(r).stream().anyMatch(request -> request.transaction == t)) {
                return r;
            }
        }
        return -1;
    }

    int waitsFor(int t) {
        if (t < 0 || t > 7) {
            return BOUNDS;
        }
        int r = awaited(t);
        if (r == -1) {
            return 0;
        }
        int set = 0;
        List<Request> queue = queues.get(r);
        int place = 0;
        while (queue.get(place).transaction != t) {
            place++;
        }
        int mode = queue.get(place).mode;
        for (int i = 0; i < place; i++) {
            if (queue.get(i).mode == 2 || mode == 2) {
                set |= 1 << queue.get(i).transaction;
            }
        }
        for (int u = 0; u < 8; u++) {
            int lock = held(u, r);
            if (u != t && (lock == 2 || lock == 1 && mode == 2)) {
                set |= 1 << u;
            }
        }
        return set;
    }

    int blockers(int t) {
        if (t < 0 || t > 7) {
            return BOUNDS;
        }
        TreeSet<Integer> seen = new TreeSet<>();
        walk(t, seen);
        seen.remove(t);
        return seen.size();
    }

    private void walk(int t, TreeSet<Integer> seen) {
        for (int u = 0; u < 8; u++) {
            if ((waitsFor(t) & 1 << u) != 0 && seen.add(u)) {
                walk(u, seen);
            }
        }
    }

    int holders(int r) {
        if (r < 0 || r > 9) {
            return BOUNDS;
        }
        int set = 0;
        for (int t = 0; t < 8; t++) {
            set |= held(t, r) == 0 ? 0 : 1 << t;
        }
        return set;
    }

    int queueLength(int r) {
        return r < 0 || r > 9 ? BOUNDS : queues.get(r).size();
    }

    int queued(int r, int index) {
        if (r < 0 || r > 9 || index < 0) {
            return BOUNDS;
        }
        if (index >= queues.get(r).size()) {
            return -1;
        }
        return 10 * queues.get(r).get(index).transaction + queues.get(r).get(index).mode;
    }

    int ifRequested(int t, int r, int mode) {
        int fault = requestFault(t, r, mode);
        if (fault != 0) {
            return fault;
        }
        return state(t) != 1 ? -1 : copy().doRequest(t, r, mode, new TreeSet<>());
    }

    int victimsOf(int t, int r, int mode) {
        int fault = requestFault(t, r, mode);
        if (fault != 0) {
            return fault;
        }
        TreeSet<Integer> victims = new TreeSet<>();
        if (state(t) == 1) {
            copy().doRequest(t, r, mode, victims);
        }
        return victims.stream().mapToInt(v -> 1 << v).sum();
    }

    int brokenRings() {
        return rings;
    }

    int lostWork() {
        return lost;
    }

    int locksHeld() {
        return lives.values().stream().mapToInt(life -> life.locks.size()).sum();
    }

    int savedStates() {
        return saved.size();
    }

    int textLength() {
        return text.length();
    }
}
