import java.util.ArrayList;
import java.util.Arrays;

/**
 * A house that others agree in: a tree of nodes, numbered changes, servers that are behind, sessions and leases that
 * end, watches, gathered acts, and the recipes made of these. What each call promises is told in the document.
 */
public final class Leasehall {
    public static final int NONE = -100;
    public static final int ANY = -1;
    public static final int PLAIN = 0, OF_SESSION = 1, OF_LEASE = 2, CONTAINER = 3;
    public static final int NO_NODE = -1, NO_RIGHT = -2, BAD_VERSION = -3, EXISTS = -4, NO_CHILDREN = -5,
        NOT_EMPTY = -6, QUOTA = -7, FULL = -8;
    public static final int LOST = -9, SKIPPED = -10, GATHERED = -11;
    public static final int VALUE = 0, CHILDREN = 1, BRANCH = 2, MADE = 0, SET = 1, GONE = 2;

    private static final int MOST_NODES = 80;
    private static final int MOST_SESSIONS = 10;
    private static final int MOST_LEASES = 10;
    private static final int MOST_ACTS = 6;
    private static final int MOST_WATCHES = 8;
    private static final int PEOPLE = 4;
    private static final int SERVERS = 3;
    private static final int LONGEST = 50;
    private static final int MOST_FOLLOWED = 20;
    private static final int GREATEST_NAME = 99;
    private static final int FIRST_NUMBERED = 1000;
    private static final int GREATEST_VALUE = 1000;
    private static final int GREATEST_FENCE = 10000;
    private static final int ALL_PEOPLE = 15;
    private static final int LAST_WHAT = 9;

    // An act and the step that it makes share their number: MADE, SET, GONE, and these.
    private static final int RIGHTS = 3, RIGHTS_BELOW = 4, CHECK = 5;

    // Between two restores each node goes once at most, and every other step has a call of its own: 512 calls make
    // less than 600 steps, of which 8 watches are told less than 4800 times.
    private static final int MOST_STEPS = 1024;
    private static final int FIRST_ROOM = 16;
    private static final int MOST_TOLD = 8192;

    private static final int NOT_LOSING = 0, LOSING_DONE = 1, LOSING_UNDONE = 2;

    private final Births births = new Births();
    private final Server[] servers = new Server[SERVERS];
    // The server 0's tree, which decides, and what it was ahead of the acts that are being done.
    private final Tree truth = new Tree(births);
    private final Tree before = new Tree(births);
    // The tree of a new object, or of the last restore, from which the log leads to all that can be asked.
    private final Tree oldest = new Tree(births);
    private final Log log = new Log();
    private final Tree kept = new Tree(births);
    private final ArrayList<Session> sessions = new ArrayList<Session>();
    private final ArrayList<Lease> leases = new ArrayList<Lease>();
    private final Act loneAct = new Act();
    private final int[] quotas = new int[MOST_NODES];
    private final int[] beliefs = new int[MOST_NODES];
    private boolean hasKept = false;
    private int madeBefore = 1;
    private int now = 0;
    private int lastChange = 0;
    private int compacted = 0;
    private int losing = NOT_LOSING;
    private int greatestFence = 0;
    private int storedNumber = 0;

    public Leasehall() {
        servers[0] = new Server(truth);
        for (int i = 1; i < SERVERS; i++) {
            servers[i] = new Server(new Tree(births));
        }
        Arrays.fill(quotas, MOST_NODES);
    }

    // ---- sessions, servers, time

    public int open(int person, int server, int patience)
            throws IndexOutOfBoundsException, IllegalArgumentException, IllegalStateException {
        if (!isWithin(person, 0, PEOPLE - 1)) {
            throw new IndexOutOfBoundsException("no such person");
        }
        Server at = knownServer(server);
        if (!isWithin(patience, 1, LONGEST)) {
            throw new IllegalArgumentException("patience is out of range");
        }
        if (sessions.size() >= MOST_SESSIONS) {
            throw new IllegalStateException("10 sessions were opened");
        }
        int number = sessions.size();
        sessions.add(new Session(number, person, at, patience, now));
        return number;
    }

    public int close(int session) throws IndexOutOfBoundsException, IllegalStateException {
        Session s = known(session);
        mustLive(s);
        forgetLocks(s);
        return endSession(s);
    }

    public int ping(int session) throws IndexOutOfBoundsException, IllegalStateException {
        Session s = known(session);
        wake(s);
        return s.server.changes;
    }

    public boolean move(int session, int server) throws IndexOutOfBoundsException, IllegalStateException {
        Session s = known(session);
        Server target = knownServer(server);
        wake(s);
        if (target.changes < s.server.changes) {
            return false;
        }
        s.server = target;
        return true;
    }

    public int sync(int session) throws IndexOutOfBoundsException, IllegalStateException {
        Session s = known(session);
        wake(s);
        return catchUp(s.server, lastChange);
    }

    public int follow(int server, int most) throws IndexOutOfBoundsException, IllegalArgumentException {
        Server follower = knownServer(server);
        if (!isWithin(most, 1, MOST_FOLLOWED)) {
            throw new IllegalArgumentException("most is out of range");
        }
        return catchUp(follower, most);
    }

    public int pass(int time) throws IllegalArgumentException {
        if (!isWithin(time, 1, LONGEST)) {
            throw new IllegalArgumentException("time is out of range");
        }
        for (int i = 0; i < time; i++) {
            now++;
            lapseSessions();
            lapseLeases();
        }
        return now;
    }

    // ---- leases

    public int lease(int time) throws IllegalArgumentException, IllegalStateException {
        if (!isWithin(time, 1, LONGEST)) {
            throw new IllegalArgumentException("time is out of range");
        }
        if (leases.size() >= MOST_LEASES) {
            throw new IllegalStateException("10 leases were made");
        }
        leases.add(new Lease(time, now + time));
        return leases.size() - 1;
    }

    public int renew(int lease) throws IndexOutOfBoundsException, IllegalStateException {
        Lease held = knownLease(lease);
        if (held.ended) {
            throw new IllegalStateException("the lease has ended");
        }
        held.until = now + held.time;
        return held.until;
    }

    // ---- acts

    public int make(int session, int parent, int name, boolean numbered, int value, int kind, int lease)
            throws IndexOutOfBoundsException, IllegalArgumentException, IllegalStateException {
        Session s = known(session);
        mustBeName(name, numbered);
        mustBeValue(value);
        if (!isWithin(kind, PLAIN, CONTAINER)) {
            throw new IllegalArgumentException("kind is out of range");
        }
        Lease held = kind == OF_LEASE ? knownLease(lease) : null;
        mustLive(s);
        if (held != null && held.ended) {
            throw new IllegalStateException("the lease has ended");
        }
        Act act = nextAct(s);
        act.toMake(parent, numbered ? FIRST_NUMBERED : name, value, kind);
        act.holder = kind == OF_LEASE ? lease : session;
        return submit(s, act);
    }

    public int set(int session, int node, int value, int version)
            throws IndexOutOfBoundsException, IllegalArgumentException, IllegalStateException {
        Session s = known(session);
        mustBeValue(value);
        Act act = nextAct(s);
        act.toDo(SET, node, value, version);
        return submit(s, act);
    }

    public int delete(int session, int node, int version) throws IndexOutOfBoundsException, IllegalStateException {
        Session s = known(session);
        Act act = nextAct(s);
        act.toDo(GONE, node, 0, version);
        return submit(s, act);
    }

    public int rights(int session, int node, int read, int write, boolean below)
            throws IndexOutOfBoundsException, IllegalArgumentException, IllegalStateException {
        Session s = known(session);
        if (!isWithin(read, 0, ALL_PEOPLE) || !isWithin(write, 0, ALL_PEOPLE)) {
            throw new IllegalArgumentException("rights are out of range");
        }
        Act act = nextAct(s);
        act.toDo(below ? RIGHTS_BELOW : RIGHTS, node, read + 16 * write, ANY);
        return submit(s, act);
    }

    public int check(int session, int node, int version) throws IndexOutOfBoundsException, IllegalStateException {
        Session s = known(session);
        Act act = nextAct(s);
        act.toDo(CHECK, node, 0, version);
        return submit(s, act);
    }

    public void gather(int session) throws IndexOutOfBoundsException, IllegalStateException {
        Session s = known(session);
        mustLive(s);
        mustNotGather(s);
        s.last = now;
        s.gathers = true;
        s.gathered = 0;
    }

    public int done(int session) throws IndexOutOfBoundsException, IllegalStateException {
        Session s = known(session);
        mustLive(s);
        if (!s.gathers) {
            throw new IllegalStateException("the session does not gather");
        }
        s.last = now;
        s.gathers = false;
        int refused = performAll(s);
        if (refused >= 0) {
            undo();
            return -1 - refused;
        }
        if (s.answered == 0) {
            // Nothing is refused, so it is done; but only acts, one or more, take up a LOST answer.
            catchUp(s.server, lastChange);
            return lastChange;
        }
        return settle(s) ? lastChange : NONE;
    }

    public int answer(int session, int place) throws IndexOutOfBoundsException {
        Session s = known(session);
        if (place < 0) {
            throw new IndexOutOfBoundsException("place is below 0");
        }
        return place < s.answered && place < MOST_ACTS ? s.answers[place] : NONE;
    }

    public void lose(boolean done) {
        losing = done ? LOSING_DONE : LOSING_UNDONE;
    }

    public int quota(int node, int most) throws IllegalArgumentException {
        if (!isWithin(most, 0, MOST_NODES)) {
            throw new IllegalArgumentException("most is out of range");
        }
        if (!truth.holds(node)) {
            return NO_NODE;
        }
        quotas[node] = most;
        return truth.belowOf(node);
    }

    // ---- reading, watches

    public int read(int session, int node, int what)
            throws IndexOutOfBoundsException, IllegalArgumentException, IllegalStateException {
        Session s = known(session);
        if (!isWithin(what, 0, LAST_WHAT)) {
            throw new IllegalArgumentException("what is out of range");
        }
        wake(s);
        Tree tree = s.server.tree;
        int refusal = tree.readingRefused(node, s.person);
        return refusal < 0 ? refusal : tree.told(node, what);
    }

    public int child(int session, int node, int place) throws IndexOutOfBoundsException, IllegalStateException {
        Session s = known(session);
        if (place < 0) {
            throw new IndexOutOfBoundsException("place is below 0");
        }
        wake(s);
        Tree tree = s.server.tree;
        int refusal = tree.readingRefused(node, s.person);
        return refusal < 0 ? refusal : tree.childAt(node, place);
    }

    public int watch(int session, int node, int kind)
            throws IndexOutOfBoundsException, IllegalArgumentException, IllegalStateException {
        Session s = known(session);
        if (!isWithin(kind, VALUE, BRANCH)) {
            throw new IllegalArgumentException("kind is out of range");
        }
        mustLive(s);
        tellWatches(s);
        if (s.watches >= MOST_WATCHES) {
            throw new IllegalStateException("the session has 8 watches");
        }
        s.last = now;
        int refusal = s.server.tree.readingRefused(node, s.person);
        return refusal < 0 ? refusal : s.addWatch(node, kind);
    }

    public int hear(int session) throws IndexOutOfBoundsException, IllegalStateException {
        Session s = known(session);
        wake(s);
        tellWatches(s);
        return s.row.takeOldest();
    }

    // ---- recipes

    public int want(int session, int lock, boolean shared) throws IndexOutOfBoundsException, IllegalStateException {
        Session s = known(session);
        mustLive(s);
        mustNotGather(s);
        s.last = now;
        loneAct.toMake(lock, FIRST_NUMBERED, shared ? 1 : 0, OF_SESSION);
        loneAct.holder = session;
        return submit(s, loneAct);
    }

    public int has(int session, int lock) throws IndexOutOfBoundsException, IllegalStateException {
        Session s = known(session);
        wake(s);
        int fence = s.server.tree.fenceOf(session, lock);
        believe(s, lock, fence != NONE);
        return fence;
    }

    public int giveUp(int session, int lock) throws IndexOutOfBoundsException, IllegalStateException {
        Session s = known(session);
        wake(s);
        believe(s, lock, false);
        int child = truth.firstOf(session, lock);
        if (child == NONE) {
            return 0;
        }
        int gone = letGo(child);
        commit();
        catchUp(s.server, lastChange);
        return gone;
    }

    public int believers(int lock) {
        return isWithin(lock, 0, MOST_NODES - 1) ? beliefs[lock] : 0;
    }

    public boolean isOpen(int session, int node, int many)
            throws IndexOutOfBoundsException, IllegalArgumentException, IllegalStateException {
        Session s = known(session);
        if (!isWithin(many, 1, MOST_NODES)) {
            throw new IllegalArgumentException("many is out of range");
        }
        wake(s);
        return s.server.tree.childrenOf(node) >= many;
    }

    public int takeFirst(int session, int queue) throws IndexOutOfBoundsException, IllegalStateException {
        Session s = known(session);
        mustLive(s);
        mustNotGather(s);
        s.last = now;
        if (!truth.holds(queue)) {
            return NO_NODE;
        }
        if (!truth.mayWrite(queue, s.person)) {
            return NO_RIGHT;
        }
        int first = truth.firstWithoutChildren(queue);
        if (!truth.holds(first)) {
            return NONE;
        }
        int value = truth.value[first];
        loneAct.toDo(GONE, first, 0, ANY);
        int answer = submit(s, loneAct);
        return answer < 0 ? answer : value;
    }

    public boolean store(int fence, int number) throws IllegalArgumentException {
        if (!isWithin(fence, 0, GREATEST_FENCE)) {
            throw new IllegalArgumentException("fence is out of range");
        }
        if (fence < greatestFence) {
            return false;
        }
        greatestFence = fence;
        storedNumber = number;
        return true;
    }

    public int stored() {
        return storedNumber;
    }

    // ---- the past

    public int valueAt(int node, int change) throws IllegalArgumentException, IllegalStateException {
        mustBeChange(change);
        mustBeKept(change);
        if (!isWithin(node, 0, MOST_NODES - 1)) {
            return NONE;
        }
        int value = oldest.here[node] ? oldest.value[node] : NONE;
        for (int i = 0; i < log.size && log.change[i] <= change; i++) {
            if (log.node[i] == node && log.tells(i)) {
                value = log.kind[i] == GONE ? NONE : log.number[i];
            }
        }
        return value;
    }

    public int changedAt(int node, int change, int place)
            throws IndexOutOfBoundsException, IllegalArgumentException, IllegalStateException {
        if (place < 0) {
            throw new IndexOutOfBoundsException("place is below 0");
        }
        mustBeChange(change);
        mustBeKept(change);
        int counted = -1;
        int latest = change;
        for (int i = 0; i < log.size; i++) {
            if (log.node[i] == node && log.tells(i) && log.change[i] > latest) {
                latest = log.change[i];
                counted++;
                if (counted == place) {
                    return latest;
                }
            }
        }
        return NONE;
    }

    public int compact(int change) throws IllegalArgumentException {
        mustBeChange(change);
        compacted = Math.max(compacted, change);
        return compacted;
    }

    public int snapshot() {
        kept.copyFrom(truth);
        hasKept = true;
        return 1 + truth.belowOf(0);
    }

    public int restore() throws IllegalStateException {
        if (!hasKept) {
            throw new IllegalStateException("no snapshot was kept");
        }
        lastChange++;
        compacted = lastChange;
        for (int i = 0; i < sessions.size(); i++) {
            sessions.get(i).ended = true;
        }
        for (int i = 0; i < leases.size(); i++) {
            leases.get(i).ended = true;
        }
        oldest.copyFrom(kept);
        oldest.dropHeld();
        log.size = 0;
        for (int i = 0; i < SERVERS; i++) {
            servers[i].tree.copyFrom(oldest);
            servers[i].changes = lastChange;
            servers[i].steps = 0;
        }
        return lastChange;
    }

    public int changes() {
        return lastChange;
    }

    // ---- what arguments and sessions have to be

    private static boolean isWithin(int number, int least, int most) {
        return number >= least && number <= most;
    }

    private Session known(int session) {
        if (session < 0 || session >= sessions.size()) {
            throw new IndexOutOfBoundsException("no such session");
        }
        return sessions.get(session);
    }

    private Server knownServer(int server) {
        if (server < 0 || server >= SERVERS) {
            throw new IndexOutOfBoundsException("no such server");
        }
        return servers[server];
    }

    private Lease knownLease(int lease) {
        if (lease < 0 || lease >= leases.size()) {
            throw new IndexOutOfBoundsException("no such lease");
        }
        return leases.get(lease);
    }

    // Being told that it has ended is what ends a session's beliefs, so they go with the exception.
    private void mustLive(Session s) {
        if (s.ended) {
            forgetLocks(s);
            throw new IllegalStateException("the session has ended");
        }
    }

    private void wake(Session s) {
        mustLive(s);
        s.last = now;
    }

    private static void mustNotGather(Session s) {
        if (s.gathers) {
            throw new IllegalStateException("the session gathers");
        }
    }

    private static void mustBeName(int name, boolean numbered) {
        if (!numbered && !isWithin(name, 0, GREATEST_NAME)) {
            throw new IllegalArgumentException("name is out of range");
        }
    }

    private static void mustBeValue(int value) {
        if (!isWithin(value, -GREATEST_VALUE, GREATEST_VALUE)) {
            throw new IllegalArgumentException("value is out of range");
        }
    }

    private void mustBeChange(int change) {
        if (!isWithin(change, 0, lastChange)) {
            throw new IllegalArgumentException("change is out of range");
        }
    }

    private void mustBeKept(int change) {
        if (change < compacted) {
            throw new IllegalStateException("the change is compacted");
        }
    }

    // ---- doing acts

    private Act nextAct(Session s) {
        mustLive(s);
        if (s.gathers && s.gathered >= MOST_ACTS) {
            throw new IllegalStateException("6 acts are gathered");
        }
        s.last = now;
        return s.gathers ? s.acts[s.gathered] : loneAct;
    }

    private int submit(Session s, Act act) {
        if (s.gathers) {
            s.gathered++;
            return GATHERED;
        }
        begin();
        int answer = perform(s, act);
        if (answer < 0) {
            return answer;
        }
        return settle(s) ? answer : LOST;
    }

    /** Answers the place of the act that is refused, or -1. */
    private int performAll(Session s) {
        begin();
        int refused = -1;
        s.answered = s.gathered;
        for (int i = 0; i < s.gathered && i < MOST_ACTS; i++) {
            s.answers[i] = refused >= 0 ? SKIPPED : perform(s, s.acts[i]);
            if (refused < 0 && s.answers[i] < 0) {
                refused = i;
            }
        }
        return refused;
    }

    private void begin() {
        before.copyFrom(truth);
        madeBefore = births.made;
    }

    private void undo() {
        truth.copyFrom(before);
        births.made = madeBefore;
        log.size = servers[0].steps;
    }

    private void commit() {
        Server first = servers[0];
        if (log.size > first.steps) {
            lastChange++;
            first.changes = lastChange;
            first.steps = log.size;
        }
    }

    /** Keeps what was done since begin(), or takes it back if so told; answers whether the answer gets through. */
    private boolean settle(Session s) {
        int told = losing;
        losing = NOT_LOSING;
        if (told == LOSING_UNDONE) {
            undo();
            return false;
        }
        commit();
        catchUp(s.server, lastChange);
        return told == NOT_LOSING;
    }

    private int perform(Session s, Act act) {
        switch (act.kind) {
            case MADE:
                return tryMake(s, act);
            case SET:
                return trySet(s, act);
            case GONE:
                return tryDelete(s, act);
            case CHECK:
                return tryCheck(s, act);
            default:
                return tryRights(s, act);
        }
    }

    private int tryMake(Session s, Act act) {
        int parent = act.node;
        if (!truth.holds(parent)) {
            return NO_NODE;
        }
        if (!truth.mayWrite(parent, s.person)) {
            return NO_RIGHT;
        }
        boolean numbered = act.name == FIRST_NUMBERED;
        if (!numbered && truth.hasChildNamed(parent, act.name)) {
            return EXISTS;
        }
        if (births.isHeld(parent)) {
            return NO_CHILDREN;
        }
        if (isQuotaUsed(parent)) {
            return QUOTA;
        }
        int node = births.made;
        if (node >= MOST_NODES) {
            return FULL;
        }
        births.add(act, numbered ? FIRST_NUMBERED + truth.numbered[parent] : act.name, lastChange + 1);
        record(MADE, node, act.number);
        return node;
    }

    private int trySet(Session s, Act act) {
        int node = act.node;
        if (!truth.holds(node)) {
            return NO_NODE;
        }
        if (!truth.mayWrite(node, s.person)) {
            return NO_RIGHT;
        }
        if (!truth.hasVersion(node, act.version)) {
            return BAD_VERSION;
        }
        record(SET, node, act.number);
        return truth.valueVersion[node];
    }

    private int tryDelete(Session s, Act act) {
        int node = act.node;
        if (!truth.holds(node)) {
            return NO_NODE;
        }
        if (node > 0 && !truth.mayWrite(births.parent[node], s.person)) {
            return NO_RIGHT;
        }
        if (!truth.hasVersion(node, act.version)) {
            return BAD_VERSION;
        }
        if (node == 0 || truth.childrenOf(node) > 0) {
            return NOT_EMPTY;
        }
        return letGo(node);
    }

    private int tryRights(Session s, Act act) {
        int node = act.node;
        if (!truth.holds(node)) {
            return NO_NODE;
        }
        if (!truth.mayWrite(node, s.person)) {
            return NO_RIGHT;
        }
        record(act.kind, node, act.number);
        return act.kind == RIGHTS_BELOW ? 1 + truth.belowOf(node) : 1;
    }

    private int tryCheck(Session s, Act act) {
        int refusal = truth.readingRefused(act.node, s.person);
        if (refusal < 0) {
            return refusal;
        }
        if (!truth.hasVersion(act.node, act.version)) {
            return BAD_VERSION;
        }
        return truth.told(act.node, 1);
    }

    private boolean isQuotaUsed(int parent) {
        truth.countBelow();
        int above = parent;
        for (int i = 0; i < MOST_NODES && above >= 0; i++) {
            if (truth.below[above] >= quotas[above]) {
                return true;
            }
            above = births.parent[above];
        }
        return false;
    }

    /** Lets a node go, and the containers that are empty by that; answers how many. */
    private int letGo(int node) {
        int at = node;
        int gone = 0;
        do {
            record(GONE, at, 0);
            gone++;
            at = births.parent[at];
        } while (gone < MOST_NODES && at > 0 && births.kind[at] == CONTAINER && truth.childrenOf(at) == 0);
        return gone;
    }

    private void record(int kind, int node, int number) {
        if (log.add(lastChange + 1, kind, node, number)) {
            truth.apply(kind, node, number);
        }
    }

    // ---- servers, ends, what is told and believed

    /** Lets a server get at most so many changes; answers how many it gets. */
    private int catchUp(Server server, int most) {
        int got = Math.min(lastChange - server.changes, most);
        server.changes += got;
        for (int i = server.steps; i < log.size && log.change[i] <= server.changes; i++) {
            server.tree.apply(log.kind[i], log.node[i], log.number[i]);
            server.steps++;
        }
        return got;
    }

    private void lapseSessions() {
        for (int i = 0; i < sessions.size(); i++) {
            Session s = sessions.get(i);
            if (!s.ended && now - s.last >= s.patience) {
                endSession(s);
            }
        }
    }

    private void lapseLeases() {
        for (int i = 0; i < leases.size(); i++) {
            Lease held = leases.get(i);
            if (!held.ended && now >= held.until) {
                held.ended = true;
                letHeldGo(OF_LEASE, i);
            }
        }
    }

    private int endSession(Session s) {
        s.ended = true;
        return letHeldGo(OF_SESSION, s.number);
    }

    private int letHeldGo(int kind, int holder) {
        int gone = 0;
        for (int i = 1; i < MOST_NODES; i++) {
            if (truth.here[i] && births.kind[i] == kind && births.holder[i] == holder) {
                gone += letGo(i);
            }
        }
        commit();
        return gone;
    }

    // What is told shows in hear() and watch() alone, so a session may be told late, of all that its server has got
    // since; a server that it is moved to has the same steps, and more.
    private void tellWatches(Session s) {
        for (int i = s.steps; i < log.size && i < s.server.steps; i++) {
            if (log.tells(i)) {
                s.hearOf(log.kind[i], log.node[i], births);
            }
        }
        s.steps = s.server.steps;
    }

    private void believe(Session s, int lock, boolean hasIt) {
        if (isWithin(lock, 0, MOST_NODES - 1)) {
            int bit = 1 << s.number;
            beliefs[lock] = hasIt ? beliefs[lock] | bit : beliefs[lock] & ~bit;
        }
    }

    private void forgetLocks(Session s) {
        for (int i = 0; i < MOST_NODES; i++) {
            believe(s, i, false);
        }
    }

    /** What is fixed when a node is made; a number is never given again, so all servers and the past share it. */
    private static final class Births {
        final int[] parent = new int[MOST_NODES];
        final int[] name = new int[MOST_NODES];
        final int[] kind = new int[MOST_NODES];
        final int[] holder = new int[MOST_NODES];
        final int[] change = new int[MOST_NODES];
        int made = 1;

        Births() {
            parent[0] = NONE;
            name[0] = NONE;
        }

        void add(Act act, int itsName, int itsChange) {
            if (made < MOST_NODES) {
                parent[made] = act.node;
                name[made] = itsName;
                kind[made] = act.nodeKind;
                holder[made] = act.holder;
                change[made] = itsChange;
                made++;
            }
        }

        /** Whether a node lives by a session or a lease. */
        boolean isHeld(int node) {
            return kind[node] == OF_SESSION || kind[node] == OF_LEASE;
        }

        boolean isWithinBranch(int node, int top) {
            int at = node;
            for (int i = 0; i < MOST_NODES && at > top; i++) {
                at = parent[at];
            }
            return at == top;
        }
    }

    /** The nodes as one server has them, or as they were once. */
    private static final class Tree {
        final Births births;
        final boolean[] here = new boolean[MOST_NODES];
        final int[] value = new int[MOST_NODES];
        final int[] valueVersion = new int[MOST_NODES];
        final int[] childVersion = new int[MOST_NODES];
        final int[] rightsVersion = new int[MOST_NODES];
        final int[] rights = new int[MOST_NODES];
        final int[] numbered = new int[MOST_NODES];
        // Rows to reckon in.
        final int[] below = new int[MOST_NODES];
        final boolean[] given = new boolean[MOST_NODES];

        Tree(Births births) {
            this.births = births;
            here[0] = true;
            rights[0] = ALL_PEOPLE + 16 * ALL_PEOPLE;
        }

        void copyFrom(Tree other) {
            for (int i = 0; i < MOST_NODES; i++) {
                here[i] = other.here[i];
                value[i] = other.value[i];
                valueVersion[i] = other.valueVersion[i];
                childVersion[i] = other.childVersion[i];
                rightsVersion[i] = other.rightsVersion[i];
                rights[i] = other.rights[i];
                numbered[i] = other.numbered[i];
            }
        }

        void dropHeld() {
            for (int i = 1; i < MOST_NODES; i++) {
                if (births.isHeld(i)) {
                    here[i] = false;
                }
            }
        }

        void apply(int kind, int node, int number) {
            switch (kind) {
                case MADE:
                    appear(node, births.parent[node], number);
                    break;
                case SET:
                    value[node] = number;
                    valueVersion[node]++;
                    break;
                case GONE:
                    here[node] = false;
                    childVersion[births.parent[node]]++;
                    break;
                default:
                    giveRights(node, number, kind == RIGHTS_BELOW);
            }
        }

        private void appear(int node, int parent, int itsValue) {
            // Its number was never given before, so its versions are 0 still.
            here[node] = true;
            value[node] = itsValue;
            rights[node] = rights[parent];
            childVersion[parent]++;
            if (births.name[node] >= FIRST_NUMBERED) {
                numbered[parent]++;
            }
        }

        // A child's number is above its parent's, so whether its parent is given them is known when it is looked at.
        private void giveRights(int node, int sum, boolean toBranch) {
            for (int i = node; i < MOST_NODES; i++) {
                int parent = births.parent[i];
                given[i] = i == node || toBranch && here[i] && parent >= node && given[parent];
                if (given[i]) {
                    rights[i] = sum;
                    rightsVersion[i]++;
                }
            }
        }

        boolean holds(int node) {
            return node >= 0 && node < MOST_NODES && here[node];
        }

        boolean mayWrite(int node, int person) {
            return ((rights[node] >> (PEOPLE + person)) & 1) == 1;
        }

        boolean hasVersion(int node, int version) {
            return version == ANY || version == valueVersion[node];
        }

        /** Answers NO_NODE, NO_RIGHT, or 0 if the person may read the node. */
        int readingRefused(int node, int person) {
            if (!holds(node)) {
                return NO_NODE;
            }
            return ((rights[node] >> person) & 1) == 1 ? 0 : NO_RIGHT;
        }

        int told(int node, int what) {
            switch (what) {
                case 0:
                    return value[node];
                case 1:
                    return valueVersion[node];
                case 2:
                    return childVersion[node];
                case 3:
                    return rightsVersion[node];
                case 4:
                    return births.parent[node];
                case 5:
                    return births.name[node];
                case 6:
                    return childrenOf(node);
                case 7:
                    return births.kind[node];
                case 8:
                    return births.change[node];
                default:
                    return rights[node];
            }
        }

        boolean isChild(int node, int parent) {
            return here[node] && births.parent[node] == parent;
        }

        int childrenOf(int node) {
            int count = 0;
            for (int i = 1; i < MOST_NODES; i++) {
                if (isChild(i, node)) {
                    count++;
                }
            }
            return count;
        }

        boolean hasChildNamed(int node, int name) {
            for (int i = 1; i < MOST_NODES; i++) {
                if (isChild(i, node) && births.name[i] == name) {
                    return true;
                }
            }
            return false;
        }

        /** The child with the lowest name above one, or NONE. */
        int nextChild(int node, int name) {
            int best = NONE;
            for (int i = 1; i < MOST_NODES; i++) {
                if (isChild(i, node) && births.name[i] > name && (best < 0 || births.name[i] < births.name[best])) {
                    best = i;
                }
            }
            return best;
        }

        int firstChild(int node) {
            return nextChild(node, -1);
        }

        int childAt(int node, int place) {
            int child = firstChild(node);
            for (int i = 0; i < place && i < MOST_NODES && child > 0; i++) {
                child = nextChild(node, births.name[child]);
            }
            return child;
        }

        int firstWithoutChildren(int node) {
            int child = firstChild(node);
            for (int i = 0; i < MOST_NODES && child > 0 && childrenOf(child) > 0; i++) {
                child = nextChild(node, births.name[child]);
            }
            return child;
        }

        boolean isOfSession(int node, int session) {
            return births.kind[node] == OF_SESSION && births.holder[node] == session;
        }

        int firstOf(int session, int lock) {
            int child = firstChild(lock);
            for (int i = 0; i < MOST_NODES && child > 0 && !isOfSession(child, session); i++) {
                child = nextChild(lock, births.name[child]);
            }
            return child;
        }

        /** The fence with which a session has a lock, or NONE. */
        int fenceOf(int session, int lock) {
            int own = firstOf(session, lock);
            if (!holds(own)) {
                return NONE;
            }
            boolean shared = value[own] == 1;
            for (int i = 1; i < MOST_NODES; i++) {
                boolean isLower = isChild(i, lock) && births.name[i] < births.name[own];
                if (isLower && (!shared || value[i] == 0)) {
                    return NONE;
                }
            }
            return births.change[own];
        }

        // A child's number is above its parent's, so one way from the end is enough.
        void countBelow() {
            Arrays.fill(below, 0);
            for (int i = MOST_NODES - 1; i > 0; i--) {
                if (here[i]) {
                    below[births.parent[i]] += 1 + below[i];
                }
            }
        }

        int belowOf(int node) {
            countBelow();
            return below[node];
        }
    }

    /** The steps of all changes since the last restore, in order. */
    private static final class Log {
        final int[] change = new int[MOST_STEPS];
        final int[] kind = new int[MOST_STEPS];
        final int[] node = new int[MOST_STEPS];
        final int[] number = new int[MOST_STEPS];
        int size = 0;

        boolean add(int itsChange, int itsKind, int itsNode, int itsNumber) {
            if (size >= MOST_STEPS) {
                return false;
            }
            change[size] = itsChange;
            kind[size] = itsKind;
            node[size] = itsNode;
            number[size] = itsNumber;
            size++;
            return true;
        }

        /** Whether a step is one that watches and the past tell of: not one of rights. */
        boolean tells(int step) {
            return kind[step] == MADE || kind[step] == SET || kind[step] == GONE;
        }
    }

    /** What a server has, and up to which change and step. */
    private static final class Server {
        final Tree tree;
        int changes = 0;
        int steps = 0;

        Server(Tree tree) {
            this.tree = tree;
        }
    }

    private static final class Lease {
        final int time;
        int until;
        boolean ended = false;

        Lease(int time, int until) {
            this.time = time;
            this.until = until;
        }
    }

    /** An act that waits to be done. */
    private static final class Act {
        int kind = CHECK;
        int node = NONE;
        int name = 0;
        int number = 0;
        int version = ANY;
        int nodeKind = PLAIN;
        int holder = NONE;

        void toMake(int parent, int itsName, int value, int itsKind) {
            toDo(MADE, parent, value, ANY);
            name = itsName;
            nodeKind = itsKind;
        }

        void toDo(int itsKind, int itsNode, int itsNumber, int itsVersion) {
            kind = itsKind;
            node = itsNode;
            number = itsNumber;
            version = itsVersion;
        }
    }

    private static final class Session {
        final int number;
        final int person;
        final int patience;
        final Act[] acts = new Act[MOST_ACTS];
        final int[] answers = new int[MOST_ACTS];
        final int[] watchNode = new int[MOST_WATCHES];
        final int[] watchKind = new int[MOST_WATCHES];
        final Row row = new Row();
        Server server;
        int last;
        int steps;
        int watches = 0;
        int gathered = 0;
        int answered = 0;
        boolean gathers = false;
        boolean ended = false;

        Session(int number, int person, Server server, int patience, int now) {
            this.number = number;
            this.person = person;
            this.server = server;
            this.patience = patience;
            last = now;
            steps = server.steps;
            for (int i = 0; i < MOST_ACTS; i++) {
                acts[i] = new Act();
            }
        }

        int addWatch(int node, int kind) {
            if (watches < MOST_WATCHES) {
                watchNode[watches] = node;
                watchKind[watches] = kind;
                watches++;
            }
            return watches;
        }

        void hearOf(int kind, int node, Births births) {
            int left = 0;
            for (int i = 0; i < watches && i < MOST_WATCHES; i++) {
                boolean isTold = watchesFor(i, kind, node, births);
                if (isTold) {
                    row.add(10 * node + kind);
                }
                if (!isTold || watchKind[i] == BRANCH) {
                    watchNode[left] = watchNode[i];
                    watchKind[left] = watchKind[i];
                    left++;
                }
            }
            watches = left;
        }

        private boolean watchesFor(int place, int kind, int node, Births births) {
            int watched = watchNode[place];
            switch (watchKind[place]) {
                case VALUE:
                    return node == watched && kind != MADE;
                case CHILDREN:
                    return kind != SET && births.parent[node] == watched || kind == GONE && node == watched;
                default:
                    return births.isWithinBranch(node, watched);
            }
        }
    }

    /** What a session was told and has not heard yet, the oldest first. */
    private static final class Row {
        private int[] told = new int[FIRST_ROOM];
        private int first = 0;
        private int end = 0;

        void add(int number) {
            if (end >= told.length) {
                makeRoom();
            }
            if (end < told.length) {
                told[end] = number;
                end++;
            }
        }

        private void makeRoom() {
            if (first > 0) {
                System.arraycopy(told, first, told, 0, end - first);
                end -= first;
                first = 0;
            } else if (told.length < MOST_TOLD) {
                told = Arrays.copyOf(told, 2 * told.length);
            }
        }

        int takeOldest() {
            if (first >= end) {
                return NONE;
            }
            int oldest = told[first];
            first++;
            return oldest;
        }
    }
}
