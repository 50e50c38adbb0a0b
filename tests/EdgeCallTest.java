import java.util.function.Supplier;

/** The face, argument by argument: the last values that are allowed, the first that are not, and who is thrown first. */
final class EdgeCallTest {
    private static final int ANY = Leasehall.ANY;
    private static final int[] NO_NODES = {4, 5, 79, 80, 81, -1, -2, -3, -99, -100, -101, 1000, 1073741824,
        Integer.MAX_VALUE, Integer.MIN_VALUE, Integer.MIN_VALUE + 1};

    private EdgeCallTest() {
    }

    /** One session, of the person 0, at the server 0. */
    private static Leasehall one() {
        Leasehall house = new Leasehall();
        house.open(0, 0, 50);
        return house;
    }

    /** Ten sessions, at all servers; the nodes 1 to 3, of which the last went. */
    private static Leasehall ten() {
        Leasehall house = new Leasehall();
        for (int i = 0; i < 10; i++) {
            house.open(i % 4, i % 3, 50);
        }
        for (int i = 1; i <= 3; i++) {
            house.make(0, 0, i, false, i, Leasehall.PLAIN, 0);
        }
        house.delete(0, 3, ANY);
        return house;
    }

    private static Leasehall full() {
        Leasehall house = one();
        for (int i = 1; i < 80; i++) {
            house.make(0, 0, 0, true, i, Leasehall.PLAIN, 0);
        }
        return house;
    }

    private static Leasehall withLeases(int many) {
        Leasehall house = one();
        for (int i = 0; i < many; i++) {
            house.lease(i + 1);
        }
        return house;
    }

    private static Leasehall changed(int changes, int compacted) {
        Leasehall house = one();
        for (int i = 0; i < changes; i++) {
            house.set(0, 0, i, ANY);
        }
        house.compact(compacted);
        return house;
    }

    private static void opens() {
        Supplier<Leasehall> fresh = Leasehall::new;
        Edge.within("person: 0 to 3", Check.RANGE, fresh, 0, 3, (house, number) -> house.open(number, 0, 50));
        Edge.within("server: 0 to 2", Check.RANGE, fresh, 0, 2, (house, number) -> house.open(0, number, 50));
        Edge.within("patience: 1 to 50", Check.ARGUMENT, fresh, 1, 50, (house, number) -> house.open(0, 0, number));
        Leasehall house = new Leasehall();
        for (int i = 0; i < 10; i++) {
            Check.is("at most 10 are ever opened", i, house.open(3, 2, 1));
        }
        Check.fails("10 were opened", Check.STATE, () -> house.open(3, 2, 1));
        house.pass(1);
        Check.fails("10 were opened, which all have lapsed", Check.STATE, () -> house.open(0, 0, 1));
        house.snapshot();
        house.restore();
        Check.fails("10 were opened, ahead of a restore", Check.STATE, () -> house.open(0, 0, 1));
        Check.fails("the person ahead of the patience", Check.RANGE, () -> house.open(4, 0, 51));
        Check.fails("the server ahead of the patience", Check.RANGE, () -> house.open(0, 3, 0));
        Check.fails("the patience ahead of the ten", Check.ARGUMENT, () -> house.open(0, 0, 51));
    }

    private static void sessions() {
        for (SessionCall call : SessionCall.values()) {
            Supplier<Leasehall> fresh = EdgeCallTest::ten;
            if (call == SessionCall.DONE) {
                fresh = EdgeCallTest::allGather;
            }
            Edge.within("no such session, " + call, Check.RANGE, fresh, 0, 9, call::ask);
            Edge.fails("no session at all, " + call, Check.RANGE, Leasehall::new, 0, call::ask);
            Edge.fails("the second of one, " + call, Check.RANGE, EdgeCallTest::one, 1, call::ask);
        }
    }

    private static Leasehall allGather() {
        Leasehall house = ten();
        for (int i = 0; i < 10; i++) {
            house.gather(i);
        }
        return house;
    }

    private static void ended() {
        for (SessionCall call : SessionCall.values()) {
            Leasehall house = new Leasehall();
            house.open(0, 0, 1);
            house.open(0, 0, 50);
            house.open(0, 0, 50);
            house.pass(1);
            house.close(1);
            Class<?> due = call == SessionCall.ANSWER ? null : Check.STATE;
            Check.fails("it lapsed, " + call, due, () -> call.ask(house, 0));
            Check.fails("it was closed, " + call, due, () -> call.ask(house, 1));
            house.snapshot();
            house.restore();
            Check.fails("by that all sessions end, " + call, due, () -> call.ask(house, 2));
        }
    }

    private static void serversAndTime() {
        Edge.within("server: 0 to 2, move", Check.RANGE, EdgeCallTest::one, 0, 2, (house, at) -> house.move(0, at));
        Edge.within("server: 0 to 2, follow", Check.RANGE, EdgeCallTest::one, 0, 2, (house, at) -> house.follow(at, 1));
        Edge.within("most: 1 to 20", Check.ARGUMENT, EdgeCallTest::one, 1, 20, (house, most) -> house.follow(0, most));
        Edge.within("most: 1 to 20", Check.ARGUMENT, EdgeCallTest::one, 1, 20, (house, most) -> house.follow(2, most));
        Edge.within("time: 1 to 50, pass", Check.ARGUMENT, EdgeCallTest::one, 1, 50, (house, time) -> house.pass(time));
        Edge.within("time: 1 to 50, lease", Check.ARGUMENT, EdgeCallTest::one, 1, 50, (house, time) -> house.lease(time));
        Leasehall house = one();
        house.close(0);
        Check.fails("the server ahead of most", Check.RANGE, () -> house.follow(3, 0));
        Check.fails("the server ahead of the end", Check.RANGE, () -> house.move(0, 3));
        Check.fails("the server ahead of the end", Check.RANGE, () -> house.move(0, -1));
        Check.fails("the session ahead of the server", Check.RANGE, () -> house.move(1, 0));
    }

    private static void leases() {
        Edge.within("no such lease, renew", Check.RANGE, () -> withLeases(10), 0, 9, (house, it) -> house.renew(it));
        Edge.within("no such lease, make", Check.RANGE, () -> withLeases(10), 0, 9,
            (house, it) -> house.make(0, 0, 1, false, 0, Leasehall.OF_LEASE, it));
        Edge.fails("none at all, renew", Check.RANGE, EdgeCallTest::one, 0, (house, it) -> house.renew(it));
        Edge.fails("none at all, make", Check.RANGE, EdgeCallTest::one, 0,
            (house, it) -> house.make(0, 0, 1, false, 0, Leasehall.OF_LEASE, it));
        Leasehall house = withLeases(10);
        Check.fails("10 were made", Check.STATE, () -> house.lease(50));
        Check.fails("the time ahead of that", Check.ARGUMENT, () -> house.lease(51));
        house.pass(10);
        Check.fails("10 were made, which all have ended", Check.STATE, () -> house.lease(50));
        for (int i = 0; i < 10; i++) {
            Edge.fails("the lease has ended, renew", Check.STATE, () -> house, i, (it, lease) -> it.renew(lease));
            Edge.fails("the lease has ended, make", Check.STATE, () -> house, i,
                (it, lease) -> it.make(0, 0, 1, false, 0, Leasehall.OF_LEASE, lease));
        }
        for (int kind : new int[] {Leasehall.PLAIN, Leasehall.OF_SESSION, Leasehall.CONTAINER}) {
            for (int lease : new int[] {0, 9, 10, -1, Integer.MIN_VALUE, Integer.MAX_VALUE}) {
                Check.is("otherwise it does not matter", true, house.make(0, 0, 0, true, 0, kind, lease) > 0);
            }
        }
    }

    private static void makes() {
        Supplier<Leasehall> fresh = () -> withLeases(1);
        Edge.within("name: 0 to 99", Check.ARGUMENT, fresh, 0, 99,
            (house, name) -> house.make(0, 0, name, false, 0, Leasehall.PLAIN, 0));
        Edge.within("value: -1000 to 1000, make", Check.ARGUMENT, fresh, -1000, 1000,
            (house, value) -> house.make(0, 0, 0, true, value, Leasehall.PLAIN, 0));
        Edge.within("kind: PLAIN to CONTAINER", Check.ARGUMENT, fresh, 0, 3,
            (house, kind) -> house.make(0, 0, 0, false, 0, kind, 0));
        for (int name : new int[] {-1, 100, 999, 1000, 1001, Integer.MIN_VALUE, Integer.MAX_VALUE}) {
            Leasehall house = one();
            Check.is("it does not matter for a NUMBERED one", 1, house.make(0, 0, name, true, 0, Leasehall.PLAIN, 0));
            Check.is("it does not matter for a NUMBERED one", 1000, house.read(0, 1, 5));
        }
        for (int name : new int[] {0, 99}) {
            Leasehall house = one();
            Check.is("other names are 0 to 99", 1, house.make(0, 0, name, false, 0, Leasehall.PLAIN, 0));
            Check.is("other names are 0 to 99", name, house.read(0, 1, 5));
        }
        for (int value : new int[] {-1000, 1000}) {
            Leasehall house = one();
            house.make(0, 0, 0, false, value, Leasehall.PLAIN, 0);
            Check.is("value: -1000 to 1000", value, house.read(0, 1, 0));
        }
    }

    private static void makesInOrder() {
        Leasehall house = withLeases(1);
        house.open(0, 0, 1);
        house.pass(1);
        Check.fails("the session ahead of the name", Check.RANGE, () -> house.make(2, 0, 100, false, 0, 0, 0));
        Check.fails("the session ahead of the kind", Check.RANGE, () -> house.make(-1, 0, 0, false, 0, 4, 0));
        Check.fails("the name goes ahead of the lease", Check.ARGUMENT, () -> house.make(0, 0, 100, false, 0, 2, 1));
        Check.fails("the name goes ahead of the lease", Check.ARGUMENT, () -> house.make(0, 0, -1, false, 0, 2, -1));
        Check.fails("the value goes ahead of the lease", Check.ARGUMENT, () -> house.make(0, 0, 0, false, 1001, 2, 1));
        Check.fails("the value goes ahead of the lease", Check.ARGUMENT, () -> house.make(0, 0, 0, true, -1001, 2, 1));
        Check.fails("the kind is no OF_LEASE", Check.ARGUMENT, () -> house.make(0, 0, 0, false, 0, 4, 1));
        Check.fails("no name matters", Check.RANGE, () -> house.make(0, 0, 100, true, 0, 2, 1));
        Check.fails("no such lease, ahead of the session's end", Check.RANGE,
            () -> house.make(1, 0, 0, false, 0, 2, 1));
        Check.fails("the value ahead of the session's end", Check.ARGUMENT,
            () -> house.make(1, 0, 0, false, 1001, 0, 0));
        Check.fails("the lease has ended", Check.STATE, () -> house.make(0, 0, 0, false, 0, 2, 0));
        Check.fails("the lease has ended, and no parent is there", Check.STATE,
            () -> house.make(0, 9, 0, false, 0, 2, 0));
        Check.is("no parent is there", Leasehall.NO_NODE, house.make(0, 9, 0, false, 0, 1, 0));
    }

    private static void otherActs() {
        Edge.within("value: -1000 to 1000, set", Check.ARGUMENT, EdgeCallTest::one, -1000, 1000,
            (house, value) -> house.set(0, 0, value, ANY));
        Edge.within("read: 0 to 15", Check.ARGUMENT, EdgeCallTest::one, 0, 15,
            (house, read) -> house.rights(0, 0, read, 15, false));
        Edge.within("write: 0 to 15", Check.ARGUMENT, EdgeCallTest::one, 0, 15,
            (house, write) -> house.rights(0, 0, 15, write, true));
        Edge.within("most: 0 to 80", Check.ARGUMENT, EdgeCallTest::one, 0, 80, (house, most) -> house.quota(0, most));
        Edge.within("most: 0 to 80, of no node", Check.ARGUMENT, EdgeCallTest::one, 0, 80,
            (house, most) -> house.quota(7, most));
        Edge.atLeast("place: from 0, answer", Check.RANGE, EdgeCallTest::one, 0, (house, at) -> house.answer(0, at));
        Check.is("value: -1000 to 1000", 1, one().set(0, 0, 1000, ANY));
        Check.is("value: -1000 to 1000", 1, one().set(0, 0, -1000, ANY));
        Leasehall house = one();
        house.close(0);
        Check.fails("the session ahead of the value", Check.RANGE, () -> house.set(1, 0, 1001, ANY));
        Check.fails("the value ahead of the end", Check.ARGUMENT, () -> house.set(0, 0, -1001, ANY));
        Check.fails("the session ahead of the rights", Check.RANGE, () -> house.rights(1, 0, 16, 0, false));
        Check.fails("the rights ahead of the end", Check.ARGUMENT, () -> house.rights(0, 0, 16, 0, false));
        Check.fails("the rights ahead of the end", Check.ARGUMENT, () -> house.rights(0, 0, 0, -1, false));
        Check.fails("no session ahead of a place", Check.RANGE, () -> house.answer(1, -1));
    }

    /** A version is any number: just that of the value, or ANY, is the one. */
    private static void versions() {
        for (int version : new int[] {-3, -2, 0, 1, 3, 4, 1000, Integer.MIN_VALUE, Integer.MAX_VALUE}) {
            Leasehall house = changed(2, 0);
            house.make(0, 0, 0, false, 0, Leasehall.PLAIN, 0);
            house.set(0, 1, 0, 0);
            house.set(0, 1, 0, 1);
            Check.is("set, version " + version, Leasehall.BAD_VERSION, house.set(0, 0, 0, version));
            Check.is("check, version " + version, Leasehall.BAD_VERSION, house.check(0, 0, version));
            Check.is("delete, version " + version, Leasehall.BAD_VERSION, house.delete(0, 1, version));
        }
        for (int version : new int[] {ANY, 2}) {
            Leasehall house = changed(2, 0);
            house.make(0, 0, 0, false, 0, Leasehall.PLAIN, 0);
            house.set(0, 1, 0, 0);
            house.set(0, 1, 0, 1);
            Check.is("check, version " + version, 2, house.check(0, 0, version));
            Check.is("set, version " + version, 3, house.set(0, 0, 0, version));
            Check.is("delete, version " + version, 1, house.delete(0, 1, version));
        }
    }

    private static void readsAndWatches() {
        Edge.within("what: 0 to 9", Check.ARGUMENT, EdgeCallTest::one, 0, 9, (house, what) -> house.read(0, 0, what));
        Edge.within("what: 0 to 9, of no node", Check.ARGUMENT, EdgeCallTest::one, 0, 9,
            (house, what) -> house.read(0, -7, what));
        Edge.atLeast("place: 0 for the first one, child", Check.RANGE, EdgeCallTest::one, 0,
            (house, at) -> house.child(0, 0, at));
        Edge.atLeast("place: 0 for the first one, child of no node", Check.RANGE, EdgeCallTest::one, 0,
            (house, at) -> house.child(0, 80, at));
        Edge.within("kind: VALUE to BRANCH", Check.ARGUMENT, EdgeCallTest::one, 0, 2,
            (house, kind) -> house.watch(0, 0, kind));
        Edge.within("kind: VALUE to BRANCH, of no node", Check.ARGUMENT, EdgeCallTest::one, 0, 2,
            (house, kind) -> house.watch(0, -1, kind));
        Leasehall house = one();
        house.close(0);
        Check.fails("the session ahead of what", Check.RANGE, () -> house.read(1, 0, 10));
        Check.fails("what ahead of the end", Check.ARGUMENT, () -> house.read(0, 0, -1));
        Check.fails("the place ahead of the end", Check.RANGE, () -> house.child(0, 0, -1));
        Check.fails("the session ahead of the kind", Check.RANGE, () -> house.watch(1, 0, 3));
        Check.fails("the kind ahead of the end", Check.ARGUMENT, () -> house.watch(0, 0, -1));
    }

    private static void recipes() {
        Edge.within("many: 1 to 80", Check.ARGUMENT, EdgeCallTest::one, 1, 80,
            (house, many) -> house.isOpen(0, 0, many));
        Edge.within("many: 1 to 80, of no node", Check.ARGUMENT, EdgeCallTest::one, 1, 80,
            (house, many) -> house.isOpen(0, 80, many));
        Edge.within("fence: 0 to 10000", Check.ARGUMENT, Leasehall::new, 0, 10000,
            (house, fence) -> house.store(fence, 1));
        for (int number : new int[] {0, 1, -1, Integer.MIN_VALUE, Integer.MAX_VALUE}) {
            Leasehall house = new Leasehall();
            Check.is("any number is taken", true, house.store(0, number));
            Check.is("any number is taken", number, house.stored());
        }
        Leasehall house = one();
        house.close(0);
        Check.fails("the session ahead of many", Check.RANGE, () -> house.isOpen(1, 0, 0));
        Check.fails("many ahead of the end", Check.ARGUMENT, () -> house.isOpen(0, 0, 81));
    }

    private static void past() {
        Edge.within("change: 0 to the last one, none, valueAt", Check.ARGUMENT, () -> changed(0, 0), 0, 0,
            (house, change) -> house.valueAt(0, change));
        Edge.within("change: 0 to the last one, valueAt", Check.ARGUMENT, () -> changed(5, 0), 0, 5,
            (house, change) -> house.valueAt(0, change));
        Edge.within("change: 0 to the last one, none, changedAt", Check.ARGUMENT, () -> changed(0, 0), 0, 0,
            (house, change) -> house.changedAt(0, change, 0));
        Edge.within("change: 0 to the last one, changedAt", Check.ARGUMENT, () -> changed(5, 0), 0, 5,
            (house, change) -> house.changedAt(0, change, 0));
        Edge.within("change: 0 to the last one, none, compact", Check.ARGUMENT, () -> changed(0, 0), 0, 0,
            (house, change) -> house.compact(change));
        Edge.within("change: 0 to the last one, compact", Check.ARGUMENT, () -> changed(5, 3), 0, 5,
            (house, change) -> house.compact(change));
        Edge.atLeast("place: 0 for the first one, changedAt", Check.RANGE, () -> changed(5, 0), 0,
            (house, at) -> house.changedAt(0, 0, at));
        compactedPast();
        Edge.fails("none was kept", Check.STATE, EdgeCallTest::one, 0, (house, it) -> house.restore());
    }

    private static void compactedPast() {
        for (int compacted = 0; compacted <= 5; compacted++) {
            int up = compacted;
            for (int change = 0; change <= 5; change++) {
                Class<?> due = change < compacted ? Check.STATE : null;
                Edge.fails("below " + up + ", valueAt", due, () -> changed(5, up), change, (it, at) -> it.valueAt(0, at));
                Edge.fails("below " + up + ", valueAt of no node", due, () -> changed(5, up), change,
                    (it, at) -> it.valueAt(-1, at));
                Edge.fails("below " + up + ", changedAt", due, () -> changed(5, up), change,
                    (it, at) -> it.changedAt(0, at, 0));
                Check.is("below " + up + " nothing happens", Math.max(up, change), changed(5, up).compact(change));
            }
        }
        Leasehall house = changed(5, 5);
        Check.fails("the change's range ahead of the compacted", Check.ARGUMENT, () -> house.valueAt(0, -1));
        Check.fails("the change's range ahead of the compacted", Check.ARGUMENT, () -> house.changedAt(0, -1, 0));
        Check.fails("the place ahead of the change's range", Check.RANGE, () -> house.changedAt(0, 6, -1));
        Check.fails("the place ahead of the compacted", Check.RANGE, () -> house.changedAt(0, 0, -1));
    }

    /** "What names a node may be any number: it is answered by NO_NODE, or NONE, if there is none." */
    private static void nodes() {
        for (NodeCall call : NodeCall.values()) {
            for (int node : NO_NODES) {
                Check.is("no node " + node + ", " + call, call.without, call.ask(ten(), node));
            }
            if (call != NodeCall.CHANGED_AT) {
                Check.is("one that went, " + call, call.without, call.ask(ten(), 3));
            }
        }
        Check.is("what went has a past", 3, ten().changedAt(3, 0, 0));
        for (int node = 0; node < 80; node++) {
            Leasehall house = full();
            Check.is("one of 80, its value", node, house.read(0, node, 0));
            Check.is("one of 80, its past", node, house.valueAt(node, node));
            Check.is("one of 80, its quota", node == 0 ? 79 : 0, house.quota(node, 0));
            Check.is("one of 80 is set", 1, house.set(0, node, 5, 0));
            Check.is("one of 80, when it was set", 80, house.changedAt(node, 79, 0));
            Check.is("one of 80 goes", node == 0 ? Leasehall.NOT_EMPTY : 1, house.delete(0, node, 1));
        }
    }

    public static void main(String[] args) {
        opens();
        sessions();
        ended();
        serversAndTime();
        leases();
        makes();
        makesInOrder();
        otherActs();
        versions();
        readsAndWatches();
        recipes();
        past();
        nodes();
        Check.end("edges of calls");
    }
}
