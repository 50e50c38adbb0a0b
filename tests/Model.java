import java.util.ArrayDeque;
import java.util.ArrayList;
import java.util.Deque;
import java.util.HashSet;
import java.util.List;
import java.util.Map;
import java.util.Set;
import java.util.TreeMap;

/**
 * The document once more, in the plainest way and by other means than the class: it keeps the whole tree behind every
 * change, does several acts on a copy, and tells watches at once.
 */
final class Model implements House {
    static final class Node {
        int number, parent, name, kind, holder, madeBy, value, ofValue, ofChildren, ofRights, read, write, numbered;

        Node copy() {
            Node to = new Node();
            to.number = number;
            to.parent = parent;
            to.name = name;
            to.kind = kind;
            to.holder = holder;
            to.madeBy = madeBy;
            to.value = value;
            to.ofValue = ofValue;
            to.ofChildren = ofChildren;
            to.ofRights = ofRights;
            to.read = read;
            to.write = write;
            to.numbered = numbered;
            return to;
        }
    }

    static final class State extends TreeMap<Integer, Node> {
        private static final long serialVersionUID = 1L;
        transient List<int[]> steps = new ArrayList<>();
        int made = 1;

        State next() {
            State to = new State();
            for (Map.Entry<Integer, Node> entry : entrySet()) {
                to.put(entry.getKey(), entry.getValue().copy());
            }
            to.made = made;
            return to;
        }

        TreeMap<Integer, Node> children(int number) {
            TreeMap<Integer, Node> byName = new TreeMap<>();
            for (Node node : values()) {
                if (node.parent == number && node.number != 0) {
                    byName.put(node.name, node);
                }
            }
            return byName;
        }

        boolean isAbove(int top, int number) {
            return number != 0 && (get(number).parent == top || isAbove(top, get(number).parent));
        }

        int below(int top) {
            int count = 0;
            for (int number : keySet()) {
                count += isAbove(top, number) ? 1 : 0;
            }
            return count;
        }

        void step(int what, int number) {
            int[] path = new int[100];
            int length = 2;
            path[0] = what;
            path[1] = number;
            for (int at = number; at != 0; at = get(at).parent) {
                path[length++] = get(at).parent;
            }
            steps.add(java.util.Arrays.copyOf(path, length));
        }

        int goes(int number) {
            step(Leasehall.GONE, number);
            Node parent = get(get(number).parent);
            remove(number);
            parent.ofChildren++;
            if (parent.kind == Leasehall.CONTAINER && children(parent.number).isEmpty()) {
                return 1 + goes(parent.number);
            }
            return 1;
        }
    }

    static final class Visitor {
        int number, person, server, patience, last;
        boolean ended;
        List<int[]> gathered;
        List<Integer> answers = new ArrayList<>();
        List<int[]> watches = new ArrayList<>();
        Deque<Integer> row = new ArrayDeque<>();
        Set<Integer> believed = new HashSet<>();
    }

    static final int MAKE = 0, PUT = 1, DROP = 2, GRANT = 3, LOOK = 4;

    final List<State> states = new ArrayList<>();
    final List<Visitor> visitors = new ArrayList<>();
    final List<int[]> leases = new ArrayList<>();
    final Map<Integer, Integer> quotas = new TreeMap<>();
    final int[] had = new int[3];
    State kept;
    Boolean losing;
    int now, compacted, fence, number;

    Model() {
        State first = new State();
        Node root = new Node();
        root.parent = Leasehall.NONE;
        root.name = Leasehall.NONE;
        root.read = 15;
        root.write = 15;
        first.put(0, root);
        states.add(first);
    }

    State latest() {
        return states.get(states.size() - 1);
    }

    private int last() {
        return states.size() - 1;
    }

    private State seen(Visitor v) {
        return states.get(had[v.server]);
    }

    // ---- exceptions

    private static void range(boolean fine) {
        if (!fine) {
            throw new IndexOutOfBoundsException();
        }
    }

    private static void argument(boolean fine) {
        if (!fine) {
            throw new IllegalArgumentException();
        }
    }

    private static void state(boolean fine) {
        if (!fine) {
            throw new IllegalStateException();
        }
    }

    private Visitor visitor(int session) {
        range(session >= 0 && session < visitors.size());
        return visitors.get(session);
    }

    private Visitor alive(Visitor v) {
        if (v.ended) {
            v.believed.clear();
        }
        state(!v.ended);
        return v;
    }

    private Visitor awake(Visitor v) {
        alive(v).last = now;
        return v;
    }

    // ---- changes

    private void advance(int server, int to) {
        while (had[server] < to) {
            had[server]++;
            for (Visitor v : visitors) {
                if (!v.ended && v.server == server) {
                    tell(v, had[server]);
                }
            }
        }
    }

    private void tell(Visitor v, int change) {
        for (int[] step : states.get(change).steps) {
            for (int[] watch : new ArrayList<>(v.watches)) {
                boolean told;
                if (watch[1] == Leasehall.VALUE) {
                    told = step[1] == watch[0] && step[0] != Leasehall.MADE;
                } else if (watch[1] == Leasehall.CHILDREN) {
                    boolean ofParent = step[1] != 0 && step[2] == watch[0] && step[0] != Leasehall.SET;
                    told = ofParent || step[1] == watch[0] && step[0] == Leasehall.GONE;
                } else {
                    told = false;
                    for (int i = 1; i < step.length; i++) {
                        told |= step[i] == watch[0];
                    }
                }
                if (told) {
                    v.row.add(10 * step[1] + step[0]);
                    if (watch[1] != Leasehall.BRANCH) {
                        v.watches.remove(watch);
                    }
                }
            }
        }
    }

    private void put(State next) {
        states.add(next);
        advance(0, last());
    }

    private int end(int kind, int holder) {
        State next = latest().next();
        int gone = 0;
        for (int number : new ArrayList<>(next.keySet())) {
            Node node = next.get(number);
            if (node != null && node.kind == kind && node.holder == holder) {
                gone += next.goes(number);
            }
        }
        if (gone > 0) {
            put(next);
        }
        return gone;
    }

    // ---- acts

    private int perform(State on, Visitor v, int[] act) {
        int at = act[1];
        Node node = on.get(at);
        if (node == null) {
            return Leasehall.NO_NODE;
        }
        boolean mayWrite = (node.write >> v.person) % 2 == 1;
        switch (act[0]) {
            case MAKE:
                return mayWrite ? performMake(on, node, act) : Leasehall.NO_RIGHT;
            case PUT:
                if (!mayWrite) {
                    return Leasehall.NO_RIGHT;
                }
                if (act[3] != -1 && act[3] != node.ofValue) {
                    return Leasehall.BAD_VERSION;
                }
                node.value = act[2];
                on.step(Leasehall.SET, at);
                return ++node.ofValue;
            case DROP:
                if (at != 0 && (on.get(node.parent).write >> v.person) % 2 == 0) {
                    return Leasehall.NO_RIGHT;
                }
                if (act[3] != -1 && act[3] != node.ofValue) {
                    return Leasehall.BAD_VERSION;
                }
                return at == 0 || !on.children(at).isEmpty() ? Leasehall.NOT_EMPTY : on.goes(at);
            case GRANT:
                return mayWrite ? performGrant(on, at, act) : Leasehall.NO_RIGHT;
            default:
                if ((node.read >> v.person) % 2 == 0) {
                    return Leasehall.NO_RIGHT;
                }
                return act[3] != -1 && act[3] != node.ofValue ? Leasehall.BAD_VERSION : node.ofValue;
        }
    }

    private int performGrant(State on, int at, int[] act) {
        int count = 0;
        for (Node node : on.values()) {
            if (node.number == at || act[4] == 1 && on.isAbove(at, node.number)) {
                node.read = act[2];
                node.write = act[3];
                node.ofRights++;
                count++;
            }
        }
        on.steps.add(null);
        return count;
    }

    private int performMake(State on, Node parent, int[] act) {
        boolean numbered = act[3] == 1;
        if (!numbered && on.children(parent.number).containsKey(act[2])) {
            return Leasehall.EXISTS;
        }
        if (parent.kind == Leasehall.OF_SESSION || parent.kind == Leasehall.OF_LEASE) {
            return Leasehall.NO_CHILDREN;
        }
        for (int above : on.keySet()) {
            boolean counts = above == parent.number || on.isAbove(above, parent.number);
            if (counts && on.below(above) + 1 > quotas.getOrDefault(above, 80)) {
                return Leasehall.QUOTA;
            }
        }
        if (on.made == 80) {
            return Leasehall.FULL;
        }
        Node node = new Node();
        node.number = on.made++;
        node.parent = parent.number;
        node.name = numbered ? 1000 + parent.numbered : act[2];
        node.value = act[4];
        node.kind = act[5];
        node.holder = act[6];
        node.madeBy = last() + 1;
        node.read = parent.read;
        node.write = parent.write;
        parent.ofChildren++;
        parent.numbered += numbered ? 1 : 0;
        on.put(node.number, node);
        on.step(Leasehall.MADE, node.number);
        return node.number;
    }

    /** Whether the answer gets through. */
    private boolean settle(Visitor v, State next) {
        Boolean told = losing;
        losing = null;
        if (told == null || told) {
            boolean changes = !next.steps.isEmpty();
            next.steps.removeIf(step -> step == null);
            if (changes) {
                put(next);
            }
            advance(v.server, last());
        }
        return told == null;
    }

    private int act(Visitor v, int... act) {
        if (v.gathered != null) {
            v.gathered.add(act);
            return Leasehall.GATHERED;
        }
        State next = latest().next();
        int answer = perform(next, v, act);
        return answer < 0 || settle(v, next) ? answer : Leasehall.LOST;
    }

    private Visitor actor(Visitor v) {
        alive(v);
        state(v.gathered == null || v.gathered.size() < 6);
        return awake(v);
    }

    // ---- the face

    @Override
    public int open(int person, int server, int patience) {
        range(person >= 0 && person <= 3 && server >= 0 && server <= 2);
        argument(patience >= 1 && patience <= 50);
        state(visitors.size() < 10);
        Visitor v = new Visitor();
        v.number = visitors.size();
        v.person = person;
        v.server = server;
        v.patience = patience;
        v.last = now;
        visitors.add(v);
        return v.number;
    }

    @Override
    public int close(int session) {
        Visitor v = alive(visitor(session));
        v.ended = true;
        v.believed.clear();
        return end(Leasehall.OF_SESSION, session);
    }

    @Override
    public int ping(int session) {
        return had[awake(visitor(session)).server];
    }

    @Override
    public boolean move(int session, int server) {
        Visitor v = visitor(session);
        range(server >= 0 && server <= 2);
        awake(v);
        if (had[server] < had[v.server]) {
            return false;
        }
        for (int change = had[v.server] + 1; change <= had[server]; change++) {
            tell(v, change);
        }
        v.server = server;
        return true;
    }

    @Override
    public int sync(int session) {
        Visitor v = awake(visitor(session));
        int got = last() - had[v.server];
        advance(v.server, last());
        return got;
    }

    @Override
    public int follow(int server, int most) {
        range(server >= 0 && server <= 2);
        argument(most >= 1 && most <= 20);
        int before = had[server];
        advance(server, Math.min(last(), before + most));
        return had[server] - before;
    }

    @Override
    public int pass(int time) {
        argument(time >= 1 && time <= 50);
        for (int end = now + time; now < end;) {
            now++;
            for (Visitor v : visitors) {
                if (!v.ended && v.last + v.patience == now) {
                    v.ended = true;
                    end(Leasehall.OF_SESSION, v.number);
                }
            }
            for (int i = 0; i < leases.size(); i++) {
                if (leases.get(i)[1] == now) {
                    leases.get(i)[1] = -1;
                    end(Leasehall.OF_LEASE, i);
                }
            }
        }
        return now;
    }

    @Override
    public int lease(int time) {
        argument(time >= 1 && time <= 50);
        state(leases.size() < 10);
        leases.add(new int[] {time, now + time});
        return leases.size() - 1;
    }

    @Override
    public int renew(int lease) {
        range(lease >= 0 && lease < leases.size());
        state(leases.get(lease)[1] != -1);
        leases.get(lease)[1] = now + leases.get(lease)[0];
        return leases.get(lease)[1];
    }

    @Override
    public int make(int session, int parent, int name, boolean numbered, int value, int kind, int lease) {
        Visitor v = visitor(session);
        argument(numbered || name >= 0 && name <= 99);
        argument(Math.abs((long) value) <= 1000 && kind >= 0 && kind <= 3);
        range(kind != Leasehall.OF_LEASE || lease >= 0 && lease < leases.size());
        alive(v);
        state(kind != Leasehall.OF_LEASE || leases.get(lease)[1] != -1);
        actor(v);
        int holder = kind == Leasehall.OF_LEASE ? lease : session;
        return act(v, MAKE, parent, name, numbered ? 1 : 0, value, kind, holder);
    }

    @Override
    public int set(int session, int node, int value, int version) {
        Visitor v = visitor(session);
        argument(Math.abs((long) value) <= 1000);
        return act(actor(v), PUT, node, value, version);
    }

    @Override
    public int delete(int session, int node, int version) {
        return act(actor(visitor(session)), DROP, node, 0, version);
    }

    @Override
    public int rights(int session, int node, int read, int write, boolean below) {
        Visitor v = visitor(session);
        argument(read >= 0 && read <= 15 && write >= 0 && write <= 15);
        return act(actor(v), GRANT, node, read, write, below ? 1 : 0);
    }

    @Override
    public int check(int session, int node, int version) {
        return act(actor(visitor(session)), LOOK, node, 0, version);
    }

    @Override
    public void gather(int session) {
        Visitor v = alive(visitor(session));
        state(v.gathered == null);
        awake(v).gathered = new ArrayList<>();
    }

    @Override
    public int done(int session) {
        Visitor v = alive(visitor(session));
        state(v.gathered != null);
        awake(v);
        List<int[]> acts = v.gathered;
        v.gathered = null;
        v.answers.clear();
        State next = latest().next();
        for (int i = 0; i < acts.size(); i++) {
            int answer = perform(next, v, acts.get(i));
            v.answers.add(answer);
            if (answer < 0) {
                while (v.answers.size() < acts.size()) {
                    v.answers.add(Leasehall.SKIPPED);
                }
                return -1 - i;
            }
        }
        if (acts.isEmpty()) {
            advance(v.server, last());
            return last();
        }
        return settle(v, next) ? last() : -100;
    }

    @Override
    public int answer(int session, int place) {
        Visitor v = visitor(session);
        range(place >= 0);
        return place < v.answers.size() ? v.answers.get(place) : Leasehall.NONE;
    }

    @Override
    public void lose(boolean done) {
        losing = done;
    }

    @Override
    public int quota(int node, int most) {
        argument(most >= 0 && most <= 80);
        if (!latest().containsKey(node)) {
            return Leasehall.NO_NODE;
        }
        quotas.put(node, most);
        return latest().below(node);
    }

    private int refusedReading(Visitor v, int node) {
        Node read = seen(v).get(node);
        if (read == null) {
            return Leasehall.NO_NODE;
        }
        return (read.read >> v.person) % 2 == 1 ? 0 : Leasehall.NO_RIGHT;
    }

    @Override
    public int read(int session, int node, int what) {
        Visitor v = visitor(session);
        argument(what >= 0 && what <= 9);
        awake(v);
        if (refusedReading(v, node) != 0) {
            return refusedReading(v, node);
        }
        Node read = seen(v).get(node);
        int children = seen(v).children(node).size();
        return new int[] {read.value, read.ofValue, read.ofChildren, read.ofRights, read.parent, read.name, children,
            read.kind, read.madeBy, read.read + 16 * read.write}[what];
    }

    @Override
    public int child(int session, int node, int place) {
        Visitor v = visitor(session);
        range(place >= 0);
        awake(v);
        if (refusedReading(v, node) != 0) {
            return refusedReading(v, node);
        }
        List<Node> children = new ArrayList<>(seen(v).children(node).values());
        return place < children.size() ? children.get(place).number : Leasehall.NONE;
    }

    @Override
    public int watch(int session, int node, int kind) {
        Visitor v = visitor(session);
        argument(kind >= 0 && kind <= 2);
        alive(v);
        state(v.watches.size() < 8);
        awake(v);
        if (refusedReading(v, node) != 0) {
            return refusedReading(v, node);
        }
        v.watches.add(new int[] {node, kind});
        return v.watches.size();
    }

    @Override
    public int hear(int session) {
        Visitor v = awake(visitor(session));
        return v.row.isEmpty() ? Leasehall.NONE : v.row.remove();
    }

    private Visitor single(Visitor v) {
        alive(v);
        state(v.gathered == null);
        return awake(v);
    }

    @Override
    public int want(int session, int lock, boolean shared) {
        return act(single(visitor(session)), MAKE, lock, 0, 1, shared ? 1 : 0, Leasehall.OF_SESSION, session);
    }

    private static Node first(State state, int session, int lock) {
        for (Node node : state.children(lock).values()) {
            if (node.kind == Leasehall.OF_SESSION && node.holder == session) {
                return node;
            }
        }
        return null;
    }

    @Override
    public int has(int session, int lock) {
        Visitor v = awake(visitor(session));
        Node own = first(seen(v), session, lock);
        boolean has = own != null;
        if (has) {
            for (Node lower : seen(v).children(lock).headMap(own.name).values()) {
                has &= own.value == 1 && lower.value != 0;
            }
        }
        if (has) {
            v.believed.add(lock);
        } else {
            v.believed.remove(lock);
        }
        return has ? own.madeBy : Leasehall.NONE;
    }

    @Override
    public int giveUp(int session, int lock) {
        Visitor v = awake(visitor(session));
        v.believed.remove(lock);
        State next = latest().next();
        Node own = first(next, session, lock);
        if (own == null) {
            return 0;
        }
        int gone = next.goes(own.number);
        put(next);
        advance(v.server, last());
        return gone;
    }

    @Override
    public int believers(int lock) {
        int sum = 0;
        for (Visitor v : visitors) {
            sum += v.believed.contains(lock) ? 1 << v.number : 0;
        }
        return sum;
    }

    @Override
    public boolean isOpen(int session, int node, int many) {
        Visitor v = visitor(session);
        argument(many >= 1 && many <= 80);
        awake(v);
        return seen(v).children(node).size() >= many;
    }

    @Override
    public int takeFirst(int session, int queue) {
        Visitor v = single(visitor(session));
        Node node = latest().get(queue);
        if (node == null) {
            return Leasehall.NO_NODE;
        }
        if ((node.write >> v.person) % 2 == 0) {
            return Leasehall.NO_RIGHT;
        }
        for (Node child : latest().children(queue).values()) {
            if (latest().children(child.number).isEmpty()) {
                int answer = act(v, DROP, child.number, 0, -1);
                return answer == Leasehall.LOST ? answer : child.value;
            }
        }
        return Leasehall.NONE;
    }

    @Override
    public boolean store(int fence, int number) {
        argument(fence >= 0 && fence <= 10000);
        if (fence >= this.fence) {
            this.fence = fence;
            this.number = number;
            return true;
        }
        return false;
    }

    @Override
    public int stored() {
        return number;
    }

    @Override
    public int valueAt(int node, int change) {
        argument(change >= 0 && change <= last());
        state(change >= compacted);
        return states.get(change).containsKey(node) ? states.get(change).get(node).value : Leasehall.NONE;
    }

    @Override
    public int changedAt(int node, int change, int place) {
        range(place >= 0);
        argument(change >= 0 && change <= last());
        state(change >= compacted);
        List<Integer> found = new ArrayList<>();
        for (int i = change + 1; i <= last(); i++) {
            boolean changed = false;
            for (int[] step : states.get(i).steps) {
                changed |= step[1] == node;
            }
            if (changed) {
                found.add(i);
            }
        }
        return place < found.size() ? found.get(place) : Leasehall.NONE;
    }

    @Override
    public int compact(int change) {
        argument(change >= 0 && change <= last());
        compacted = Math.max(change, compacted);
        return compacted;
    }

    @Override
    public int snapshot() {
        kept = latest().next();
        return kept.size();
    }

    @Override
    public int restore() {
        state(kept != null);
        State next = kept.next();
        next.made = latest().made;
        next.values().removeIf(node -> node.kind == Leasehall.OF_SESSION || node.kind == Leasehall.OF_LEASE);
        for (Visitor v : visitors) {
            v.ended = true;
        }
        for (int[] lease : leases) {
            lease[1] = -1;
        }
        put(next);
        advance(1, last());
        advance(2, last());
        compacted = last();
        return last();
    }

    @Override
    public int changes() {
        return last();
    }
}
