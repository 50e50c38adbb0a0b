/** Promises 25 to 32: locks, believers, barriers, queues, the store. */
final class RecipeTest {
    private static final int ANY = Leasehall.ANY;

    private RecipeTest() {
    }

    /** The sessions 0 to 2, each of that person, all at the server 0, and the node 1. */
    private static Leasehall house() {
        Leasehall house = new Leasehall();
        for (int i = 0; i < 3; i++) {
            house.open(i, 0, 50);
        }
        plain(house, 0, 1);
        return house;
    }

    private static int plain(Leasehall house, int parent, int name) {
        return house.make(0, parent, name, false, 0, Leasehall.PLAIN, 0);
    }

    private static void promise25() {
        Leasehall house = house();
        Check.is("25: its number", 2, house.want(1, 1, true));
        int[] due = {1, 0, 0, 0, 1, 1000, 0, Leasehall.OF_SESSION, 2, 255};
        for (int what = 0; what < due.length; what++) {
            Check.is("25: a shared one, " + what, due[what], house.read(1, 2, what));
        }
        Check.is("25: another", 3, house.want(2, 1, false));
        Check.is("25: not shared", 0, house.read(2, 3, 0));
        Check.is("25: numbered", 1001, house.read(2, 3, 5));
        Check.is("25: under one of a session", Leasehall.NO_CHILDREN, house.want(0, 3, false));
        Check.is("25: no node", Leasehall.NO_NODE, house.want(0, 9, false));
        house.quota(1, 2);
        Check.is("25: too many", Leasehall.QUOTA, house.want(0, 1, false));
        house.rights(0, 1, 15, 1, false);
        Check.is("25: no right", Leasehall.NO_RIGHT, house.want(1, 1, false));
        house.lose(true);
        Check.is("25: lost", Leasehall.LOST, house.want(0, 0, false));
        Check.is("25: but done", 2, house.read(0, 0, 6));
        house.close(1);
        Check.is("25: it goes with its session", Leasehall.NO_NODE, house.read(0, 2, 0));
        house.gather(2);
        Check.fails("25: it gathers", Check.STATE, () -> house.want(2, 1, false));
        Check.fails("25: it has ended", Check.STATE, () -> house.want(1, 1, false));
        Check.fails("25: no session", Check.RANGE, () -> house.want(3, 1, false));
    }

    private static void promise26() {
        Leasehall house = house();
        house.want(0, 1, true);
        house.want(1, 1, true);
        house.want(2, 1, false);
        Check.is("26: shared", 2, house.has(0, 1));
        Check.is("26: shared, too", 3, house.has(1, 1));
        Check.is("26: not shared, behind others", Leasehall.NONE, house.has(2, 1));
        house.want(0, 1, true);
        house.giveUp(0, 1);
        Check.is("26: shared, behind one that is not", Leasehall.NONE, house.has(0, 1));
        house.giveUp(1, 1);
        Check.is("26: now it is the first", 4, house.has(2, 1));
        Check.is("26: that has none there", Leasehall.NONE, house.has(1, 1));
        house.giveUp(2, 1);
        Check.is("26: at last", 5, house.has(0, 1));
        for (int lock : new int[] {2, 80, -1, -100, Integer.MAX_VALUE, Integer.MIN_VALUE}) {
            Check.is("26: no node " + lock, Leasehall.NONE, house.has(0, lock));
        }
        Check.fails("26: no session", Check.RANGE, () -> house.has(3, 1));
        house.close(1);
        Check.fails("26: it has ended", Check.STATE, () -> house.has(1, 1));
    }

    private static void promise26Others() {
        Leasehall house = house();
        plain(house, 1, 5);
        house.set(0, 2, 7, ANY);
        house.want(0, 1, true);
        house.want(1, 1, false);
        Check.is("26: one with the value 7 is no hindrance to a shared one", 4, house.has(0, 1));
        house.giveUp(0, 1);
        Check.is("26: but to one that is not", Leasehall.NONE, house.has(1, 1));
        house.delete(0, 2, ANY);
        Check.is("26: which has it then", 5, house.has(1, 1));
        house.make(2, 1, 3, false, 9, Leasehall.OF_SESSION, 0);
        Check.is("26: a name of its own counts", 8, house.has(2, 1));
        Check.is("26: a lower one hinders", Leasehall.NONE, house.has(1, 1));
        house.set(2, 5, 0, ANY);
        house.want(0, 1, true);
        Check.is("26: the value 0 hinders a shared one", Leasehall.NONE, house.has(0, 1));
        house.make(1, 1, 0, false, 1, Leasehall.PLAIN, 0);
        Check.is("26: its own, but not of its session", Leasehall.NONE, house.has(2, 1));
    }

    private static void promise26Value7() {
        Leasehall house = house();
        house.want(0, 1, true);
        house.want(1, 1, true);
        Check.is("26: shared, with the value 1", 3, house.has(1, 1));
        house.set(1, 3, 7, ANY);
        Check.is("26: with the value 7 it is not", Leasehall.NONE, house.has(1, 1));
        house.giveUp(0, 1);
        Check.is("26: then it has to be the first", 3, house.has(1, 1));
    }

    /** The node 0 as a lock and as a queue, with the node 1 as its first child. */
    private static void promises26And30Node0() {
        Leasehall house = house();
        house.want(0, 0, false);
        Check.is("26: the node 1 is a lower one", Leasehall.NONE, house.has(0, 0));
        plain(house, 1, 1);
        Check.is("30: the node 1 has children", 0, house.takeFirst(1, 0));
        Check.is("30: so the other one went", Leasehall.NO_NODE, house.read(0, 2, 0));
        house.want(2, 0, true);
        Check.is("27: behind the node 1", 1, house.giveUp(2, 0));
    }

    private static void promise26Servers() {
        Leasehall house = house();
        house.open(3, 1, 50);
        house.want(0, 1, false);
        house.want(3, 1, false);
        house.giveUp(0, 1);
        Check.is("26: as its server tells", Leasehall.NONE, house.has(3, 1));
        house.sync(3);
        Check.is("26: then it has it", 3, house.has(3, 1));
        house.delete(0, 3, ANY);
        Check.is("26: and does so still, as its server tells", 3, house.has(3, 1));
        house.want(1, 1, false);
        house.rights(0, 1, 0, 0, true);
        Check.is("26: no rights are asked", 6, house.has(1, 1));
        house.sync(3);
        Check.is("26: now it has it not", Leasehall.NONE, house.has(3, 1));
    }

    private static void promise27() {
        Leasehall house = house();
        house.open(3, 1, 50);
        house.want(3, 1, false);
        house.want(3, 1, false);
        house.make(3, 1, 7, false, 0, Leasehall.OF_SESSION, 0);
        house.want(1, 1, false);
        house.rights(0, 1, 0, 0, true);
        house.lose(true);
        Check.is("27: the first by names", 1, house.giveUp(3, 1));
        Check.is("27: its server gets all", 7, house.ping(3));
        Check.is("27: that is gone", Leasehall.NO_NODE, house.read(3, 4, 0));
        house.gather(3);
        Check.is("27: also if it gathers", 1, house.giveUp(3, 1));
        Check.is("27: the next", Leasehall.NONE, house.valueAt(2, house.changes()));
        Check.is("27: the last", 1, house.giveUp(3, 1));
        Check.is("27: none is left", 0, house.giveUp(3, 1));
        Check.is("27: which is no change", 9, house.changes());
        Check.is("27: it is not the call that is lost", Leasehall.LOST, house.set(0, 0, 1, ANY));
        for (int lock : new int[] {2, 80, -1, -100, Integer.MAX_VALUE, Integer.MIN_VALUE}) {
            Check.is("27: no node " + lock, 0, house.giveUp(0, lock));
        }
        Check.is("27: none, still", 0, house.giveUp(3, 1));
        Check.is("27: then its server gets nothing", 9, house.ping(3));
        Check.fails("27: no session", Check.RANGE, () -> house.giveUp(4, 1));
        house.close(1);
        Check.fails("27: it has ended", Check.STATE, () -> house.giveUp(1, 1));
    }

    private static void promise27Server0() {
        Leasehall house = house();
        house.make(0, 0, 2, false, 0, Leasehall.CONTAINER, 0);
        house.open(3, 1, 50);
        house.want(0, 2, false);
        Check.is("27: a container goes with it", 2, house.giveUp(0, 2));
        Check.is("27: it is gone", 1, house.read(0, 0, 6));
        house.want(2, 1, false);
        house.sync(3);
        house.move(2, 1);
        house.want(1, 1, false);
        house.delete(0, 4, ANY);
        Check.is("27: as the server 0 has it", 0, house.giveUp(2, 1));
        Check.is("27: and its server gets nothing", 5, house.ping(2));
    }

    private static void promise28() {
        Leasehall house = house();
        house.want(0, 1, true);
        house.want(1, 1, true);
        house.want(2, 1, true);
        Check.is("28: nobody has asked", 0, house.believers(1));
        house.has(0, 1);
        house.has(2, 1);
        Check.is("28: who was told so", 5, house.believers(1));
        Check.is("28: of another lock", 0, house.believers(0));
        house.delete(0, 2, ANY);
        Check.is("28: it believes still", 5, house.believers(1));
        house.has(0, 1);
        Check.is("28: until it asks", 4, house.believers(1));
        house.delete(0, 4, ANY);
        house.giveUp(2, 1);
        Check.is("28: or gives it up, also if it has it not", 0, house.believers(1));
        house.has(1, 1);
        plain(house, 0, 0);
        house.want(1, 5, false);
        house.has(1, 5);
        Check.is("28: one of several", 2, house.believers(5));
        house.giveUp(1, 1);
        Check.is("28: gives one up", 0, house.believers(1));
        Check.is("28: not the other", 2, house.believers(5));
        house.close(1);
        Check.is("28: until it closes", 0, house.believers(5));
        for (int lock : new int[] {70, 80, -1, -100, Integer.MAX_VALUE, Integer.MIN_VALUE}) {
            Check.is("28: no lock " + lock, 0, house.believers(lock));
        }
    }

    private static void promise28Lapsed() {
        Leasehall house = house();
        house.open(3, 0, 5);
        house.want(3, 1, false);
        plain(house, 0, 2);
        house.want(3, 3, false);
        house.has(3, 1);
        house.has(3, 3);
        house.pass(5);
        Check.is("28: it lapsed, and does not know", 8, house.believers(1));
        house.answer(3, 0);
        Check.fails("28: refused for something else", Check.ARGUMENT, () -> house.read(3, 0, 10));
        Check.fails("28: or for its place", Check.RANGE, () -> house.child(3, 0, -1));
        Check.is("28: it believes still", 8, house.believers(3));
        Check.fails("28: it is told", Check.STATE, () -> house.ping(3));
        Check.is("28: then it does not", 0, house.believers(3));
        Check.is("28: of none", 0, house.believers(1));
    }

    /** The lock is a container, which goes with its last child: what is believed does not go with it. */
    private static void promise28LockGone() {
        Leasehall house = house();
        int lock = house.make(0, 0, 2, false, 0, Leasehall.CONTAINER, 0);
        int child = house.want(1, lock, false);
        Check.is("26: has it", house.changes(), house.has(1, lock));
        Check.is("13: the child goes, and the lock", 2, house.delete(0, child, ANY));
        Check.is("21: there is no lock", Leasehall.NO_NODE, house.read(1, lock, 0));
        Check.is("28: it believes still", 2, house.believers(lock));
        Check.is("27: has no child there", 0, house.giveUp(2, lock));
        Check.is("28: another gave it up", 2, house.believers(lock));
        Check.is("26: asks again", Leasehall.NONE, house.has(1, lock));
        Check.is("28: then it does not", 0, house.believers(lock));
    }

    /** Each call that is refused because the session has ended tells it so. */
    private static void promise28Told() {
        for (int call = 0; call < 21; call++) {
            Leasehall house = house();
            house.open(3, 0, 5);
            house.want(3, 1, false);
            house.has(3, 1);
            house.lease(5);
            house.pass(5);
            int which = call;
            Check.fails("28: call " + call, Check.STATE, () -> asks(house, which));
            Check.is("28: told by call " + call, 0, house.believers(1));
        }
        Leasehall house = house();
        house.want(1, 1, false);
        house.has(1, 1);
        house.gather(1);
        Check.fails("28: another refusal", Check.STATE, () -> house.want(1, 1, false));
        Check.is("28: does not matter", 2, house.believers(1));
    }

    private static void asks(Leasehall house, int call) {
        switch (call) {
            case 0: house.close(3); break;
            case 1: house.ping(3); break;
            case 2: house.move(3, 0); break;
            case 3: house.sync(3); break;
            case 4: house.make(3, 0, 0, true, 0, Leasehall.OF_LEASE, 0); break;
            case 5: house.set(3, 0, 0, 0); break;
            case 6: house.delete(3, 0, 0); break;
            case 7: house.rights(3, 0, 0, 0, true); break;
            case 8: house.check(3, 0, 0); break;
            case 9: house.gather(3); break;
            case 10: house.done(3); break;
            case 11: house.read(3, 0, 0); break;
            case 12: house.child(3, 0, 0); break;
            case 13: house.watch(3, 0, 0); break;
            case 14: house.hear(3); break;
            case 15: house.want(3, 0, true); break;
            case 16: house.has(3, 0); break;
            case 17: house.giveUp(3, 0); break;
            case 18: house.isOpen(3, 0, 1); break;
            case 19: house.takeFirst(3, 0); break;
            default: house.make(3, 0, 0, true, 0, Leasehall.PLAIN, 0);
        }
    }

    private static void promise29() {
        Leasehall house = house();
        house.open(3, 1, 50);
        plain(house, 1, 1);
        plain(house, 1, 2);
        plain(house, 2, 1);
        Check.is("29: so many", true, house.isOpen(0, 1, 2));
        Check.is("29: more", true, house.isOpen(0, 1, 1));
        Check.is("29: fewer", false, house.isOpen(0, 1, 3));
        Check.is("29: as its server tells", false, house.isOpen(3, 0, 1));
        house.rights(0, 0, 0, 15, true);
        house.follow(1, 20);
        Check.is("29: that got it; no rights are asked", true, house.isOpen(3, 1, 2));
        for (int node : new int[] {5, 80, -1, -100, Integer.MAX_VALUE, Integer.MIN_VALUE}) {
            Check.is("29: no node " + node, false, house.isOpen(0, node, 1));
        }
        Check.is("29: 80", false, house.isOpen(0, 0, 80));
        Check.fails("29: 0", Check.ARGUMENT, () -> house.isOpen(0, 0, 0));
        Check.fails("29: 81", Check.ARGUMENT, () -> house.isOpen(0, 0, 81));
        Check.fails("29: no session", Check.RANGE, () -> house.isOpen(4, 0, 0));
        house.close(3);
        Check.fails("29: it has ended", Check.STATE, () -> house.isOpen(3, 0, 1));
        Check.fails("29: 0 ahead of that", Check.ARGUMENT, () -> house.isOpen(3, 0, 0));
    }

    private static void promise30() {
        Leasehall house = house();
        house.open(3, 1, 50);
        house.make(0, 1, 0, true, -5, Leasehall.PLAIN, 0);
        house.make(0, 1, 9, false, 6, Leasehall.PLAIN, 0);
        house.make(0, 1, 7, false, 7, Leasehall.PLAIN, 0);
        plain(house, 4, 1);
        house.rights(0, 2, 0, 0, false);
        Check.is("30: the lowest name without children", 6, house.takeFirst(3, 1));
        Check.is("30: its server gets all", 7, house.ping(3));
        house.lose(false);
        Check.is("30: lost", Leasehall.LOST, house.takeFirst(0, 1));
        house.lose(true);
        Check.is("30: it was not done; now it is", Leasehall.LOST, house.takeFirst(0, 1));
        house.lose(true);
        house.set(1, 0, 1, 7);
        Check.is("30: none without children", Leasehall.NONE, house.takeFirst(3, 1));
        Check.is("30: lets its server get nothing", 7, house.ping(3));
        house.delete(0, 5, ANY);
        house.lose(true);
        Check.is("30: none is taken by NONE", Leasehall.NONE, house.takeFirst(0, 4));
        Check.is("30: so it is lost here", Leasehall.LOST, house.takeFirst(0, 1));
        for (int queue : new int[] {4, 80, -1, -100, Integer.MAX_VALUE, Integer.MIN_VALUE}) {
            Check.is("30: no node " + queue, Leasehall.NO_NODE, house.takeFirst(0, queue));
        }
    }

    private static void promise30Refused() {
        Leasehall house = house();
        house.make(0, 0, 2, false, 0, Leasehall.CONTAINER, 0);
        house.make(0, 2, 0, true, 11, Leasehall.PLAIN, 0);
        house.rights(0, 2, 0, 2, false);
        Check.is("30: no right for the queue", Leasehall.NO_RIGHT, house.takeFirst(0, 2));
        Check.is("30: the right to write is asked", 11, house.takeFirst(1, 2));
        Check.is("30: the container went, too", Leasehall.NO_NODE, house.takeFirst(1, 2));
        house.rights(0, 1, 15, 1, false);
        Check.is("30: no right, ahead of no children", Leasehall.NO_RIGHT, house.takeFirst(1, 1));
        Check.is("30: no children", Leasehall.NONE, house.takeFirst(0, 1));
        house.gather(2);
        Check.fails("30: it gathers", Check.STATE, () -> house.takeFirst(2, 1));
        Check.fails("30: no session", Check.RANGE, () -> house.takeFirst(3, 1));
        house.close(1);
        Check.fails("30: it has ended", Check.STATE, () -> house.takeFirst(1, 1));
    }

    private static void promises31And32() {
        Leasehall house = new Leasehall();
        Check.is("32: at first", 0, house.stored());
        Check.fails("31: -1", Check.ARGUMENT, () -> house.store(-1, 5));
        Check.fails("31: 10001", Check.ARGUMENT, () -> house.store(10001, 5));
        Check.is("31: the fence 0", true, house.store(0, Integer.MIN_VALUE));
        Check.is("32: the number", Integer.MIN_VALUE, house.stored());
        Check.is("31: a greater one", true, house.store(7, 8));
        Check.is("31: the same", true, house.store(7, 9));
        Check.is("31: a smaller one", false, house.store(6, 10));
        Check.is("32: stays", 9, house.stored());
        Check.is("31: the greatest", true, house.store(10000, -3));
        Check.is("31: below the greatest", false, house.store(9999, 4));
        Check.is("32: the last one taken", -3, house.stored());
    }

    public static void main(String[] args) {
        promise25();
        promise26();
        promise26Others();
        promise26Value7();
        promise26Servers();
        promises26And30Node0();
        promise27();
        promise27Server0();
        promise28();
        promise28Lapsed();
        promise28LockGone();
        promise28Told();
        promise29();
        promise30();
        promise30Refused();
        promises31And32();
        Check.end("promises 25 to 32");
    }
}
