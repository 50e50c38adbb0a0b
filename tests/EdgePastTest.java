/** The sentences of the terms under THE PAST that name an edge, each at that edge. */
final class EdgePastTest {
    private static final int ANY = Leasehall.ANY;
    private static final int NONE = Leasehall.NONE;

    private EdgePastTest() {
    }

    /** The session 0, at the server 0; the session 1, at the server 1. */
    private static Leasehall house() {
        Leasehall house = new Leasehall();
        house.open(0, 0, 50);
        house.open(0, 1, 50);
        return house;
    }

    private static int plain(Leasehall house, int session, int name, int value) {
        return house.make(session, 0, name, false, value, Leasehall.PLAIN, 0);
    }

    /** The node 1 is made by the change 2, set by 4 and 5, and goes by 7; 1, 3, 6, 8 are of the node 0. */
    private static Leasehall lived() {
        Leasehall house = house();
        house.set(0, 0, 1, ANY);
        plain(house, 0, 1, 20);
        house.set(0, 0, 3, ANY);
        house.set(0, 1, 40, ANY);
        house.set(0, 1, 40, ANY);
        house.set(0, 0, 6, ANY);
        house.delete(0, 1, ANY);
        house.set(0, 0, 8, ANY);
        return house;
    }

    /** "The value of a node behind a change can be asked", one ahead of each change, at it, and behind it. */
    private static void values() {
        int[] due = {NONE, NONE, 20, 20, 40, 40, 40, NONE, NONE};
        int[] of0 = {0, 1, 1, 3, 3, 3, 6, 6, 8};
        for (int compacted = 0; compacted <= 8; compacted++) {
            Leasehall house = lived();
            house.compact(compacted);
            for (int change = compacted; change <= 8; change++) {
                Check.is("behind " + change, due[change], house.valueAt(1, change));
                Check.is("of the node 0, behind " + change, of0[change], house.valueAt(0, change));
                Check.is("of none, behind " + change, NONE, house.valueAt(2, change));
            }
        }
    }

    /** "and by which changes it was made, set or went": behind one, that itself not included. */
    private static void changes() {
        int[] ofNode1 = {2, 4, 5, 7};
        int[] of0 = {1, 3, 6, 8};
        for (int compacted = 0; compacted <= 8; compacted++) {
            Leasehall house = lived();
            house.compact(compacted);
            for (int change = compacted; change <= 8; change++) {
                behind(house, 1, change, ofNode1);
                behind(house, 0, change, of0);
                behind(house, 2, change, new int[0]);
            }
        }
    }

    private static void behind(Leasehall house, int node, int change, int[] all) {
        int place = 0;
        for (int due : all) {
            if (due > change) {
                Check.is("behind " + change + ", place " + place, due, house.changedAt(node, change, place));
                place++;
            }
        }
        Check.is("behind " + change + ", not so many", NONE, house.changedAt(node, change, place));
        Check.is("behind " + change + ", far", NONE, house.changedAt(node, change, Integer.MAX_VALUE));
    }

    /** One change that makes, sets and lets go is one; what goes by an end, or as a container, goes by a change, too. */
    private static void onceEach() {
        Leasehall house = house();
        house.gather(0);
        plain(house, 0, 1, 5);
        house.set(0, 1, 6, ANY);
        house.delete(0, 1, ANY);
        house.make(0, 0, 2, false, 7, Leasehall.CONTAINER, 0);
        house.done(0);
        Check.is("made, set and gone at once", 1, house.changedAt(1, 0, 0));
        Check.is("is one", NONE, house.changedAt(1, 0, 1));
        Check.is("was not there behind it", NONE, house.valueAt(1, 1));
        Check.is("the other one was", 7, house.valueAt(2, 1));
        house.want(1, 2, false);
        house.rights(0, 2, 15, 15, true);
        house.pass(49);
        house.ping(0);
        house.pass(1);
        Check.is("it lapsed", 4, house.changes());
        Check.is("its node went by that", 4, house.changedAt(3, 2, 0));
        Check.is("the container, too", 4, house.changedAt(2, 1, 0));
        Check.is("rights are none of these", 0, house.valueAt(3, 3));
        Check.is("nor is a child's going", NONE, house.changedAt(0, 0, 0));
    }

    /** "below that up to which all is compacted nothing happens": below, at, above it. */
    private static void compacts() {
        for (int first = 0; first <= 8; first++) {
            for (int second = 0; second <= 8; second++) {
                Leasehall house = lived();
                Check.is("up to", first, house.compact(first));
                int most = Math.max(first, second);
                Check.is("up to, then", most, house.compact(second));
                Check.is("asked once more", most, house.compact(0));
                Check.is("that itself is there", most < 2 || most > 6 ? NONE : most < 4 ? 20 : 40, house.valueAt(1, most));
                if (most > 0) {
                    Check.fails("what is ahead is not", Check.STATE, () -> house.valueAt(1, most - 1));
                    Check.fails("what is ahead is not", Check.STATE, () -> house.changedAt(1, most - 1, 0));
                }
                Check.is("it is no change", 8, house.changes());
                Check.is("a server that is behind gets all", 8, house.sync(1));
                Check.is("as it is", 8, house.read(1, 0, 0));
            }
        }
    }

    /** "Keeps a snapshot, in place of an earlier one; returns how many nodes there are": 1 to 80. */
    private static void snapshots() {
        Leasehall house = house();
        for (int i = 1; i < 80; i++) {
            Check.is("how many there are", i, house.snapshot());
            house.make(0, 0, 0, true, i, Leasehall.PLAIN, 0);
        }
        Check.is("the most", 80, house.snapshot());
        house.delete(0, 79, ANY);
        Check.is("one less", 79, house.snapshot());
        Check.is("it is no change", 80, house.changes());
        house.delete(0, 78, ANY);
        house.restore();
        int me = house.open(0, 2, 50);
        Check.is("the last one is restored", 78, house.read(me, 78, 0));
        Check.is("not the one before it", Leasehall.NO_NODE, house.read(me, 79, 0));
        Check.is("so many", 78, house.read(me, 0, 6));
    }

    /** "what the server 0 has" is kept, and not what is gathered, or what a server has that is behind. */
    private static void ofServer0() {
        Leasehall house = house();
        plain(house, 0, 1, 5);
        house.gather(0);
        house.set(0, 1, 6, ANY);
        Check.is("two", 2, house.snapshot());
        house.done(0);
        Check.is("one change, for all servers", 3, house.restore());
        for (int server = 0; server < 3; server++) {
            int me = house.open(0, server, 50);
            Check.is("has it", 3, house.ping(me));
            Check.is("lacks nothing", 0, house.sync(me));
            Check.is("reads it", 5, house.read(me, 1, 0));
            Check.is("its version", 0, house.read(me, 1, 1));
            Check.is("can be moved", true, house.move(me, (server + 1) % 3));
        }
    }

    /** "all that was ahead of it is compacted": one ahead, it itself, one behind. */
    private static void restoredPast() {
        Leasehall house = lived();
        house.snapshot();
        Check.is("the number of the change", 9, house.restore());
        Check.fails("one ahead", Check.STATE, () -> house.valueAt(0, 8));
        Check.fails("one ahead", Check.STATE, () -> house.changedAt(0, 8, 0));
        Check.is("it itself", 8, house.valueAt(0, 9));
        Check.is("it itself", NONE, house.changedAt(0, 9, 0));
        Check.is("what went is not there", NONE, house.valueAt(1, 9));
        Check.fails("one behind, which is none yet", Check.ARGUMENT, () -> house.valueAt(0, 10));
        Check.is("up to which all is compacted", 9, house.compact(0));
        Check.is("up to it", 9, house.compact(9));
        Check.fails("no further", Check.ARGUMENT, () -> house.compact(10));
        int me = house.open(0, 0, 50);
        Check.is("its version goes on from what it was", 5, house.set(me, 0, 99, ANY));
        Check.is("numbers of changes go on", 10, house.changes());
        Check.is("behind it", 99, house.valueAt(0, 10));
        Check.is("behind it", 10, house.changedAt(0, 9, 0));
        Check.is("up to the next", 10, house.compact(10));
    }

    /** "Restores": when nothing has changed since, and twice, each is a change of its own. */
    private static void restoredTwice() {
        Leasehall house = new Leasehall();
        Check.fails("none was kept", Check.STATE, () -> house.restore());
        Check.is("of a new one", 1, house.snapshot());
        Check.is("the first change", 1, house.restore());
        Check.is("the second", 2, house.restore());
        Check.is("the third", 3, house.restore());
        Check.is("the value 0", 0, house.valueAt(0, 3));
        Check.fails("the one ahead", Check.STATE, () -> house.valueAt(0, 2));
        int me = house.open(0, 1, 50);
        Check.is("its server has it", 3, house.ping(me));
        Check.is("none lacks any", 0, house.follow(2, 20));
    }

    /** "their nodes, and those of leases, are not in what is restored ... (a CONTAINER that is empty by that stays)". */
    private static void heldNodes() {
        Leasehall house = house();
        house.lease(50);
        house.make(0, 0, 1, false, 1, Leasehall.CONTAINER, 0);
        house.make(0, 1, 1, false, 2, Leasehall.OF_SESSION, 0);
        house.make(0, 1, 2, false, 3, Leasehall.OF_LEASE, 0);
        house.make(0, 0, 2, false, 4, Leasehall.CONTAINER, 0);
        house.make(0, 4, 1, false, 5, Leasehall.PLAIN, 0);
        house.make(1, 4, 2, false, 6, Leasehall.OF_SESSION, 0);
        Check.is("all count", 7, house.snapshot());
        Check.is("one change", 7, house.restore());
        int me = house.open(0, 2, 50);
        int[] due = {0, 1, Leasehall.NO_NODE, Leasehall.NO_NODE, 4, 5, Leasehall.NO_NODE, Leasehall.NO_NODE};
        for (int node = 0; node < due.length; node++) {
            Check.is("node " + node, due[node], house.read(me, node, 0));
        }
        Check.is("it is empty", 0, house.read(me, 1, 6));
        Check.is("its children's version is as it was", 2, house.read(me, 1, 2));
        house.pass(50);
        Check.is("no changes of their own", 7, house.changes());
        int other = house.open(0, 2, 50);
        Check.is("their names are free", 7, house.make(other, 1, 1, false, 0, Leasehall.PLAIN, 0));
        Check.is("it goes when its last child has gone", 2, house.delete(other, 7, ANY));
        Check.is("so many are below", 2, house.quota(0, 80));
    }

    /** The first node, and the last one: of sessions, of leases. */
    private static void heldNodesAtTheEnds() {
        for (int kind : new int[] {Leasehall.PLAIN, Leasehall.OF_SESSION, Leasehall.OF_LEASE, Leasehall.CONTAINER}) {
            Leasehall house = house();
            house.lease(50);
            house.make(0, 0, 0, true, 1, kind, 0);
            for (int i = 2; i < 79; i++) {
                plain(house, 0, i, i);
            }
            house.make(0, 0, 0, true, 1, kind, 0);
            Check.is("80 are kept", 80, house.snapshot());
            house.restore();
            int me = house.open(0, 0, 50);
            boolean held = kind == Leasehall.OF_SESSION || kind == Leasehall.OF_LEASE;
            Check.is("the first, kind " + kind, held ? Leasehall.NO_NODE : 1, house.read(me, 1, 0));
            Check.is("the last, kind " + kind, held ? Leasehall.NO_NODE : 1, house.read(me, 79, 0));
            Check.is("those between", 78, house.read(me, 78, 0));
            Check.is("so many, kind " + kind, held ? 78 : 80, house.snapshot());
        }
    }

    /** "by that all sessions end ... nor are leases": the first ones and the last ones. */
    private static void endedByIt() {
        Leasehall house = new Leasehall();
        for (int i = 0; i < 10; i++) {
            house.open(0, i % 3, 50);
            house.lease(50);
        }
        house.snapshot();
        house.restore();
        for (int i = 0; i < 10; i++) {
            Edge.fails("a session", Check.STATE, () -> house, i, (it, number) -> it.ping(number));
            Edge.fails("a lease", Check.STATE, () -> house, i, (it, number) -> it.renew(number));
        }
        Check.is("no changes of their own", 1, house.changes());
    }

    /** "Versions, numbers of changes by which nodes were made, and how many NUMBERED children ... are as they were". */
    private static void asTheyWere() {
        Leasehall house = house();
        house.make(0, 0, 0, true, 5, Leasehall.PLAIN, 0);
        house.set(0, 1, 6, ANY);
        house.make(0, 1, 0, true, 5, Leasehall.PLAIN, 0);
        house.rights(0, 1, 9, 15, false);
        house.snapshot();
        house.set(0, 1, 7, ANY);
        house.rights(0, 1, 1, 1, true);
        house.make(0, 1, 0, true, 5, Leasehall.PLAIN, 0);
        house.make(0, 0, 0, true, 5, Leasehall.PLAIN, 0);
        house.restore();
        int me = house.open(0, 1, 50);
        int[] due = {6, 1, 1, 1, 0, 1000, 1, Leasehall.PLAIN, 1, 9 + 16 * 15};
        for (int what = 0; what < due.length; what++) {
            Check.is("what " + what, due[what], house.read(me, 1, what));
        }
        Check.is("below it", 255, house.read(me, 2, 9));
        Check.is("below it", 0, house.read(me, 2, 3));
        Check.is("the change by which it was made", 3, house.read(me, 2, 8));
        int made = house.make(me, 1, 0, true, 5, Leasehall.PLAIN, 0);
        Check.is("the second that was numbered", 1001, house.read(me, made, 5));
        Check.is("made by a change behind", 10, house.read(me, made, 8));
    }

    /** "An object is used for at most 512 calls": that many changes can be asked, got and restored still. */
    private static void manyChanges() {
        Leasehall house = house();
        for (int i = 0; i < 500; i++) {
            house.set(0, 0, i, ANY);
        }
        Check.is("the last but one", 498, house.valueAt(0, 499));
        Check.is("the first", 0, house.valueAt(0, 1));
        Check.is("the 500th", 500, house.changedAt(0, 0, 499));
        Check.is("the 501st", NONE, house.changedAt(0, 0, 500));
        Check.is("all at once", 500, house.sync(1));
        Check.is("the value", 499, house.read(1, 0, 0));
        Check.is("the version", 500, house.read(1, 0, 1));
    }

    public static void main(String[] args) {
        values();
        changes();
        onceEach();
        compacts();
        snapshots();
        ofServer0();
        restoredPast();
        restoredTwice();
        heldNodes();
        heldNodesAtTheEnds();
        endedByIt();
        asTheyWere();
        manyChanges();
        Check.end("edges of the past");
    }
}
