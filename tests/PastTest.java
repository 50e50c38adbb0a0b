/** Promises 33 to 38: values behind changes, changes of a node, compaction, snapshots, restoring. */
final class PastTest {
    private static final int ANY = Leasehall.ANY;

    private PastTest() {
    }

    /** The session 0 at the server 0, the session 1 at the server 1. */
    private static Leasehall house() {
        Leasehall house = new Leasehall();
        house.open(0, 0, 50);
        house.open(1, 1, 50);
        return house;
    }

    private static int plain(Leasehall house, int parent, int name, int value) {
        return house.make(0, parent, name, false, value, Leasehall.PLAIN, 0);
    }

    private static void promise33() {
        Leasehall house = house();
        plain(house, 0, 1, 5);
        house.set(0, 1, 6, ANY);
        plain(house, 0, 2, 7);
        house.rights(0, 1, 0, 15, true);
        house.delete(0, 1, ANY);
        int[] due = {Leasehall.NONE, 5, 6, 6, 6, Leasehall.NONE};
        for (int change = 0; change < due.length; change++) {
            Check.is("33: behind " + change, due[change], house.valueAt(1, change));
        }
        Check.is("33: another", 7, house.valueAt(2, 5));
        Check.is("33: the node 0", 0, house.valueAt(0, 3));
        for (int node : new int[] {3, 79, 80, -1, -100, Integer.MAX_VALUE, Integer.MIN_VALUE}) {
            Check.is("33: no node " + node, Leasehall.NONE, house.valueAt(node, 5));
        }
        Check.fails("33: -1", Check.ARGUMENT, () -> house.valueAt(1, -1));
        Check.fails("33: 6", Check.ARGUMENT, () -> house.valueAt(1, 6));
        house.compact(2);
        Check.fails("33: compacted", Check.STATE, () -> house.valueAt(1, 1));
        Check.fails("33: -1, though compacted", Check.ARGUMENT, () -> house.valueAt(1, -1));
        Check.is("33: that itself is there", 6, house.valueAt(1, 2));
        Check.is("33: what was ahead shows behind it", 7, house.valueAt(2, 4));
        house.gather(0);
        house.set(0, 2, 8, ANY);
        house.set(0, 2, 9, ANY);
        house.done(0);
        Check.is("33: of several in one, the last", 9, house.valueAt(2, 6));
    }

    private static void promise34() {
        Leasehall house = house();
        plain(house, 0, 1, 5);
        house.set(0, 1, 5, ANY);
        plain(house, 1, 2, 7);
        house.rights(0, 1, 15, 15, true);
        house.gather(0);
        house.set(0, 1, 8, ANY);
        house.set(0, 0, 8, ANY);
        house.set(0, 1, 9, ANY);
        house.done(0);
        house.delete(0, 2, ANY);
        house.delete(0, 1, ANY);
        int[] due = {1, 2, 5, 7, Leasehall.NONE};
        for (int place = 0; place < due.length; place++) {
            Check.is("34: place " + place, due[place], house.changedAt(1, 0, place));
        }
        Check.is("34: behind 1, not 1 itself", 2, house.changedAt(1, 1, 0));
        Check.is("34: behind 2, the next but one", 7, house.changedAt(1, 2, 1));
        Check.is("34: behind the last", Leasehall.NONE, house.changedAt(1, 7, 0));
        Check.is("34: the node 0", 5, house.changedAt(0, 0, 0));
        Check.is("34: the node 0, once", Leasehall.NONE, house.changedAt(0, 0, 1));
        Check.is("34: far", Leasehall.NONE, house.changedAt(1, 0, Integer.MAX_VALUE));
        for (int node : new int[] {3, 79, 80, -1, -100, Integer.MAX_VALUE, Integer.MIN_VALUE}) {
            Check.is("34: no node " + node, Leasehall.NONE, house.changedAt(node, 0, 0));
        }
        house.lose(false);
        house.set(0, 0, 4, ANY);
        Check.is("34: not by what was not done", Leasehall.NONE, house.changedAt(0, 5, 0));
        Check.fails("34: place -1", Check.RANGE, () -> house.changedAt(1, 99, -1));
        Check.fails("34: -1", Check.ARGUMENT, () -> house.changedAt(1, -1, 0));
        Check.fails("34: 8", Check.ARGUMENT, () -> house.changedAt(1, 8, 0));
        house.compact(3);
        Check.fails("34: compacted", Check.STATE, () -> house.changedAt(1, 2, 0));
        Check.is("34: behind that itself", 5, house.changedAt(1, 3, 0));
    }

    private static void promise35() {
        Leasehall house = house();
        Check.is("35: nothing", 0, house.compact(0));
        for (int i = 0; i < 5; i++) {
            house.set(0, 0, i, ANY);
        }
        Check.fails("35: -1", Check.ARGUMENT, () -> house.compact(-1));
        Check.fails("35: 6", Check.ARGUMENT, () -> house.compact(6));
        Check.is("35: up to", 3, house.compact(3));
        Check.is("35: below that nothing happens", 3, house.compact(1));
        Check.is("35: that is forgotten still", 2, house.valueAt(0, 3));
        Check.fails("35: ahead of it", Check.STATE, () -> house.valueAt(0, 2));
        Check.is("35: all", 5, house.compact(5));
        Check.is("35: no change", 5, house.changes());
        Check.is("35: a server that is behind still gets them", 5, house.sync(1));
        Check.is("35: as they were", 5, house.read(1, 0, 1));
    }

    private static void promise36() {
        Leasehall house = house();
        Check.is("36: the node 0", 1, house.snapshot());
        plain(house, 0, 1, 5);
        house.make(0, 1, 0, true, 0, Leasehall.OF_SESSION, 0);
        plain(house, 0, 2, 5);
        house.delete(0, 3, ANY);
        Check.is("36: those that are there, of sessions too", 3, house.snapshot());
        Check.is("36: no change", 4, house.changes());
        house.set(0, 1, 6, ANY);
        house.snapshot();
        house.set(0, 1, 7, ANY);
        house.restore();
        house.open(0, 1, 50);
        Check.is("36: the last one is kept", 6, house.read(2, 1, 0));
    }

    /** A house with the nodes 1 to 7 (5 and 6 of a session and a lease, 7 gone), kept, and then changed. */
    private static Leasehall restored() {
        Leasehall house = house();
        house.lease(50);
        house.make(0, 0, 0, true, 11, Leasehall.PLAIN, 0);
        house.set(0, 1, 12, ANY);
        house.make(0, 0, 0, true, 13, Leasehall.CONTAINER, 0);
        plain(house, 1, 1, 14);
        house.rights(0, 3, 7, 7, false);
        house.make(0, 3, 1, false, 1, Leasehall.CONTAINER, 0);
        house.make(0, 2, 0, true, 1, Leasehall.OF_SESSION, 0);
        house.make(0, 4, 0, true, 1, Leasehall.OF_LEASE, 0);
        house.make(0, 0, 0, true, 1, Leasehall.PLAIN, 0);
        house.delete(0, 7, ANY);
        house.quota(1, 5);
        house.snapshot();
        house.quota(1, 2);
        house.set(0, 1, 50, ANY);
        house.make(0, 0, 0, true, 1, Leasehall.PLAIN, 0);
        house.delete(0, 5, ANY);
        house.delete(0, 6, ANY);
        house.delete(0, 3, ANY);
        house.watch(1, 0, Leasehall.BRANCH);
        house.want(0, 8, true);
        return house;
    }

    private static void promise37() {
        Leasehall house = restored();
        Check.is("37: nodes went", Leasehall.NO_NODE, house.read(0, 2, 0));
        int last = house.changes();
        Check.is("37: one change", last + 1, house.restore());
        Check.is("37: that is the last", last + 1, house.changes());
        Check.fails("37: the session 0 has ended", Check.STATE, () -> house.move(0, 0));
        Check.fails("37: so has the session 1", Check.STATE, () -> house.hear(1));
        Check.fails("37: and the lease", Check.STATE, () -> house.renew(0));
        Check.is("37: another session", 2, house.open(0, 2, 50));
        Check.is("37: all servers have it", last + 1, house.ping(2));
        Check.is("37: another lease", 1, house.lease(5));
        int[] due = {12, 1, 1, 0, 0, 1000, 1, Leasehall.PLAIN, 1, 255};
        for (int what = 0; what < due.length; what++) {
            Check.is("37: as it was, " + what, due[what], house.read(2, 1, what));
        }
        Check.is("37: rights", 7 + 16 * 7, house.read(2, 3, 9));
        Check.is("37: their version", 1, house.read(2, 3, 3));
        Check.is("37: a container that is empty by that stays", Leasehall.CONTAINER, house.read(2, 2, 7));
        Check.is("37: its children's version is as it was", 1, house.read(2, 2, 2));
        Check.is("37: the other container", 0, house.read(2, 4, 6));
        Check.is("37: no node of a session", Leasehall.NO_NODE, house.read(2, 5, 0));
        Check.is("37: nor of a lease", Leasehall.NO_NODE, house.read(2, 6, 0));
        Check.is("37: nor what was made since", Leasehall.NO_NODE, house.read(2, 8, 0));
        Check.is("37: quotas stay", Leasehall.QUOTA, house.make(2, 1, 3, false, 0, Leasehall.PLAIN, 0));
        Check.is("37: node numbers go on", 10, house.make(2, 0, 0, true, 0, Leasehall.PLAIN, 0));
        Check.is("37: so many were numbered then", 1003, house.read(2, 10, 5));
    }

    private static void promise37Past() {
        Leasehall house = restored();
        int change = house.restore();
        Check.is("37: the past begins with it", 12, house.valueAt(1, change));
        Check.is("37: also of what had gone", 14, house.valueAt(3, change));
        Check.is("37: but not of a session's", Leasehall.NONE, house.valueAt(5, change));
        Check.fails("37: what was ahead is compacted", Check.STATE, () -> house.valueAt(1, change - 1));
        Check.fails("37: for changes, too", Check.STATE, () -> house.changedAt(1, change - 1, 0));
        Check.is("37: it is up to it", change, house.compact(0));
        house.open(0, 0, 50);
        house.set(2, 1, 77, 1);
        Check.is("37: what comes behind", change + 1, house.changedAt(1, change, 0));
        Check.is("37: is there", 77, house.valueAt(1, change + 1));
        Check.is("37: a second time", change + 2, house.restore());
        Check.is("37: as it was", 12, house.valueAt(1, change + 2));
        house.open(0, 1, 50);
        Check.is("37: for a server that was behind", 12, house.read(3, 1, 0));
        Check.is("37: a container goes when its last child goes again", 10,
            house.make(3, 2, 1, false, 0, Leasehall.PLAIN, 0));
        Check.is("37: with it", 2, house.delete(3, 10, ANY));
    }

    private static void promise37Beliefs() {
        Leasehall house = new Leasehall();
        Check.fails("37: none was kept", Check.STATE, () -> house.restore());
        Check.is("37: then nothing happens", 0, house.changes());
        house.open(0, 0, 50);
        house.make(0, 0, 3, false, 5, Leasehall.OF_SESSION, 0);
        house.snapshot();
        house.delete(0, 1, ANY);
        house.want(0, 0, false);
        house.has(0, 0);
        house.restore();
        Check.is("37: it believes, and does not know", 1, house.believers(0));
        Check.fails("37: until it is told", Check.STATE, () -> house.giveUp(0, 0));
        Check.is("37: then it does not", 0, house.believers(0));
        house.open(0, 0, 50);
        Check.is("37: the node 1 was of a session", Leasehall.NO_NODE, house.read(1, 1, 0));
        Check.is("37: no watches", 1, house.watch(1, 0, Leasehall.BRANCH));
        house.pass(50);
        Check.is("37: ends later make no change", 4, house.changes());
    }

    private static void promise38() {
        Leasehall house = house();
        Check.is("38: none", 0, house.changes());
        plain(house, 0, 1, 5);
        Check.is("38: making", 1, house.changes());
        house.set(0, 1, 5, 7);
        house.check(0, 1, 0);
        house.sync(1);
        house.quota(1, 4);
        house.snapshot();
        house.store(1, 1);
        house.ping(0);
        house.pass(1);
        Check.is("38: what is none", 1, house.changes());
        house.set(0, 1, 5, 0);
        house.rights(0, 1, 15, 15, true);
        house.delete(0, 1, ANY);
        Check.is("38: acts", 4, house.changes());
        house.make(1, 0, 1, false, 5, Leasehall.OF_SESSION, 0);
        house.close(1);
        Check.is("38: ends", 6, house.changes());
        house.restore();
        Check.is("38: restoring", 7, house.changes());
    }

    public static void main(String[] args) {
        promise33();
        promise34();
        promise35();
        promise36();
        promise37();
        promise37Past();
        promise37Beliefs();
        promise38();
        Check.end("promises 33 to 38");
    }
}
