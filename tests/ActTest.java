/** Promises 11 to 20: acts, alone and gathered, lost answers, quotas. */
final class ActTest {
    private static final int ANY = Leasehall.ANY;

    private ActTest() {
    }

    /** The sessions 0 (person 0, server 0) and 1 (person 1, server 1). */
    private static Leasehall house() {
        Leasehall house = new Leasehall();
        house.open(0, 0, 50);
        house.open(1, 1, 50);
        return house;
    }

    private static int plain(Leasehall house, int session, int parent, int name) {
        return house.make(session, parent, name, false, 0, Leasehall.PLAIN, 0);
    }

    private static int numbered(Leasehall house, int parent, int kind) {
        return house.make(0, parent, 0, true, 0, kind, 0);
    }

    private static void promise11() {
        Leasehall house = house();
        house.lease(9);
        Check.is("11: its number", 1, house.make(0, 0, 99, false, -1000, Leasehall.PLAIN, 77));
        Check.is("11: numbered, whatever the name", 2, house.make(1, 1, -5, true, 1000, Leasehall.OF_LEASE, 0));
        Check.is("11: of a session", 3, house.make(0, 1, 0, false, 7, Leasehall.OF_SESSION, -4));
        Check.is("11: numbered again", 4, house.make(0, 1, 0, true, 7, Leasehall.CONTAINER, 0));
        int[] due = {7, 0, 0, 0, 1, 1001, 0, Leasehall.CONTAINER, 4, 255};
        for (int what = 0; what < due.length; what++) {
            Check.is("11: what is made, " + what, due[what], house.read(0, 4, what));
        }
        Check.is("11: the parent's children's version", 3, house.read(0, 1, 2));
        Check.is("11: the parent's value's version", 0, house.read(0, 1, 1));
        Check.is("11: the server of the session has it", 2, house.ping(1));
        house.delete(0, 2, ANY);
        Check.is("11: numbered ones that went count", 5, numbered(house, 1, Leasehall.PLAIN));
        Check.is("11: its name", 1002, house.read(0, 5, 5));
        Check.is("11: other names do not count", 6, plain(house, 0, 3 - 2, 50));
        Check.is("11: one is numbered by its parent", 7, numbered(house, 6, Leasehall.PLAIN));
        Check.is("11: from 1000", 1000, house.read(0, 7, 5));
    }

    private static void promise11Refused() {
        Leasehall house = house();
        house.lease(9);
        plain(house, 0, 0, 1);
        house.make(0, 0, 2, false, 0, Leasehall.OF_SESSION, 0);
        house.make(0, 0, 3, false, 0, Leasehall.OF_LEASE, 0);
        for (int node : new int[] {4, 79, 80, -1, -100, Integer.MAX_VALUE, Integer.MIN_VALUE}) {
            Check.is("11: no parent " + node, Leasehall.NO_NODE, plain(house, 0, node, 1));
        }
        Check.is("11: the name is taken", Leasehall.EXISTS, plain(house, 0, 0, 1));
        Check.is("11: elsewhere it is not", 4, plain(house, 0, 1, 1));
        Check.is("11: under one of a session", Leasehall.NO_CHILDREN, plain(house, 0, 2, 1));
        Check.is("11: under one of a lease", Leasehall.NO_CHILDREN, numbered(house, 3, Leasehall.PLAIN));
        house.quota(1, 1);
        house.quota(4, 0);
        house.rights(0, 1, 15, 1, false);
        Check.is("11: the rights are asked first", Leasehall.NO_RIGHT, plain(house, 1, 1, 1));
        Check.is("11: then the name", Leasehall.EXISTS, plain(house, 0, 1, 1));
        Check.is("11: then the quota", Leasehall.QUOTA, plain(house, 0, 1, 2));
        Check.is("11: rights of who may not write above do not matter", Leasehall.QUOTA, plain(house, 1, 4, 2));
        house.quota(2, 0);
        Check.is("11: no children ahead of the quota", Leasehall.NO_CHILDREN, plain(house, 0, 2, 1));
        Check.is("11: what is refused makes no change", 5, house.changes());
        Check.is("11: nor takes a number", 5, plain(house, 0, 0, 9));
        house.delete(0, 5, ANY);
        Check.is("11: a name is free again", 6, plain(house, 0, 0, 9));
    }

    private static void promise11Thrown() {
        Leasehall house = house();
        house.lease(1);
        Check.fails("11: no session", Check.RANGE, () -> house.make(2, 0, 100, false, 0, 0, 0));
        Check.fails("11: name 100", Check.ARGUMENT, () -> house.make(0, 0, 100, false, 0, 0, 0));
        Check.fails("11: name -1", Check.ARGUMENT, () -> house.make(0, 0, -1, false, 0, 0, 0));
        Check.fails("11: value 1001", Check.ARGUMENT, () -> house.make(0, 0, 1, false, 1001, 0, 0));
        Check.fails("11: value -1001", Check.ARGUMENT, () -> house.make(0, 0, 1, true, -1001, 0, 0));
        Check.fails("11: kind 4", Check.ARGUMENT, () -> house.make(0, 0, 1, false, 0, 4, 0));
        Check.fails("11: kind -1", Check.ARGUMENT, () -> house.make(0, 0, 1, false, 0, -1, 0));
        Check.fails("11: no lease 1", Check.RANGE, () -> house.make(0, 0, 1, false, 0, 2, 1));
        Check.fails("11: no lease -1", Check.RANGE, () -> house.make(0, 0, 1, true, 0, 2, -1));
        Check.fails("11: the value ahead of the lease", Check.ARGUMENT, () -> house.make(0, 0, 1, false, 1001, 2, 1));
        Check.fails("11: the name ahead of the lease", Check.ARGUMENT, () -> house.make(0, 0, 100, false, 0, 2, 1));
        house.pass(1);
        Check.fails("11: the lease has ended", Check.STATE, () -> house.make(0, 0, 1, false, 0, 2, 0));
        house.close(1);
        Check.fails("11: the session has ended", Check.STATE, () -> house.make(1, 0, 1, false, 0, 0, 0));
        Check.fails("11: the lease's number ahead of that", Check.RANGE, () -> house.make(1, 0, 1, false, 0, 2, 1));
        house.gather(0);
        for (int i = 0; i < 6; i++) {
            Check.is("11: gathered", Leasehall.GATHERED, house.make(0, 0, i, false, 0, 0, 0));
        }
        Check.fails("11: the seventh", Check.STATE, () -> house.make(0, 0, 1, false, 0, 0, 0));
        Check.fails("11: the seventh, of a bad kind", Check.ARGUMENT, () -> house.make(0, 0, 1, false, 0, 4, 0));
    }

    private static void promise11Full() {
        Leasehall house = house();
        for (int i = 1; i < 80; i++) {
            Check.is("11: up to 79", i, numbered(house, 0, Leasehall.PLAIN));
        }
        Check.is("11: the node 79 has a past", 0, house.valueAt(79, 79));
        Check.is("11: 80 were made", Leasehall.FULL, plain(house, 0, 79, 1));
        house.delete(0, 78, ANY);
        Check.is("11: also if one is gone", Leasehall.FULL, plain(house, 0, 79, 1));
        house.quota(0, 78);
        Check.is("11: the quota ahead of that", Leasehall.QUOTA, plain(house, 0, 79, 1));
    }

    private static void promise12() {
        Leasehall house = house();
        plain(house, 0, 0, 1);
        Check.is("12: the version then", 1, house.set(0, 1, 1000, 0));
        Check.is("12: the value", 1000, house.read(0, 1, 0));
        Check.is("12: of any version", 2, house.set(1, 1, -1000, ANY));
        Check.is("12: the server of the session has it", -1000, house.read(1, 1, 0));
        Check.is("12: an old version", Leasehall.BAD_VERSION, house.set(0, 1, 3, 1));
        Check.is("12: no version", Leasehall.BAD_VERSION, house.set(0, 1, 3, -2));
        Check.is("12: the node 0", 1, house.set(0, 0, 3, 0));
        Check.is("12: other versions stay", 0, house.read(0, 1, 2) + house.read(0, 1, 3));
        for (int node : new int[] {2, 80, -1, Integer.MAX_VALUE, Integer.MIN_VALUE}) {
            Check.is("12: no node " + node, Leasehall.NO_NODE, house.set(0, node, 3, 5));
        }
        house.rights(0, 1, 15, 1, false);
        Check.is("12: no right", Leasehall.NO_RIGHT, house.set(1, 1, 3, 77));
        Check.is("12: what is refused makes no change", 5, house.changes());
        Check.fails("12: no session", Check.RANGE, () -> house.set(2, 1, 1001, 0));
        Check.fails("12: value 1001", Check.ARGUMENT, () -> house.set(0, 1, 1001, 0));
        Check.fails("12: value -1001", Check.ARGUMENT, () -> house.set(0, 1, -1001, 0));
        house.close(1);
        Check.fails("12: it has ended", Check.STATE, () -> house.set(1, 1, 1, 0));
        Check.fails("12: the value ahead of that", Check.ARGUMENT, () -> house.set(1, 1, 1001, 0));
        sixAreGathered(house);
        Check.fails("12: the seventh", Check.STATE, () -> house.set(0, 1, 1, 0));
    }

    private static void sixAreGathered(Leasehall house) {
        house.gather(0);
        for (int i = 0; i < 6; i++) {
            Check.is("gathered", Leasehall.GATHERED, house.set(0, 1, i, ANY));
        }
    }

    private static void promise13() {
        Leasehall house = house();
        plain(house, 0, 0, 1);
        numbered(house, 1, Leasehall.CONTAINER);
        numbered(house, 2, Leasehall.CONTAINER);
        plain(house, 0, 3, 1);
        plain(house, 0, 3, 2);
        house.set(0, 4, 6, 0);
        Check.is("13: it has children", Leasehall.NOT_EMPTY, house.delete(0, 3, ANY));
        Check.is("13: the version ahead of that", Leasehall.BAD_VERSION, house.delete(0, 3, 1));
        Check.is("13: the node 0", Leasehall.NOT_EMPTY, house.delete(0, 0, ANY));
        Check.is("13: the node 0's version", Leasehall.BAD_VERSION, house.delete(0, 0, 1));
        Check.is("13: an old version", Leasehall.BAD_VERSION, house.delete(0, 4, 0));
        Check.is("13: it has one child", Leasehall.NOT_EMPTY, house.delete(0, 2, ANY));
        Check.is("13: one goes", 1, house.delete(1, 4, 1));
        Check.is("13: the server of the session has it", Leasehall.NO_NODE, house.read(1, 4, 0));
        Check.is("13: the parent's children's version", 3, house.read(0, 3, 2));
        Check.is("13: containers go behind", 3, house.delete(0, 5, 0));
        Check.is("13: a plain one stays", 0, house.read(0, 1, 6));
        Check.is("13: its children's version", 2, house.read(0, 1, 2));
        Check.is("13: by one change", 8, house.changes());
        Check.is("13: an empty container, by itself", 6, numbered(house, 1, Leasehall.CONTAINER));
        Check.is("13: goes too", 1, house.delete(0, 6, ANY));
        for (int node : new int[] {6, 7, 80, -1, Integer.MAX_VALUE, Integer.MIN_VALUE}) {
            Check.is("13: no node " + node, Leasehall.NO_NODE, house.delete(0, node, 5));
        }
        Check.fails("13: no session", Check.RANGE, () -> house.delete(2, 1, 0));
        house.close(1);
        Check.fails("13: it has ended", Check.STATE, () -> house.delete(1, 1, 0));
        sixAreGathered(house);
        Check.fails("13: the seventh", Check.STATE, () -> house.delete(0, 1, 0));
    }

    private static void promise13Rights() {
        Leasehall house = house();
        plain(house, 0, 0, 1);
        plain(house, 0, 1, 1);
        house.rights(0, 2, 0, 0, false);
        house.set(0, 1, 5, 0);
        Check.is("13: the parent is asked, not the node", 1, house.delete(1, 2, ANY));
        house.rights(0, 0, 15, 1, false);
        Check.is("13: the rights ahead of the version", Leasehall.NO_RIGHT, house.delete(1, 1, 0));
        Check.is("13: of the node 0 nobody is asked", Leasehall.NOT_EMPTY, house.delete(1, 0, ANY));
        Check.is("13: who may, may", 1, house.delete(0, 1, 1));
    }

    private static void promise14() {
        Leasehall house = house();
        plain(house, 0, 0, 1);
        plain(house, 0, 1, 1);
        plain(house, 0, 2, 1);
        plain(house, 0, 0, 2);
        plain(house, 0, 1, 7);
        house.delete(0, 5, ANY);
        Check.is("14: one", 1, house.rights(0, 1, 7, 3, false));
        Check.is("14: its rights", 7 + 16 * 3, house.read(0, 1, 9));
        Check.is("14: its rights' version", 1, house.read(0, 1, 3));
        Check.is("14: below they stay", 255, house.read(0, 2, 9));
        Check.is("14: it and all below", 3, house.rights(1, 1, 3, 15, true));
        Check.is("14: below", 3 + 16 * 15, house.read(1, 3, 9));
        Check.is("14: their versions", 1, house.read(1, 3, 3));
        Check.is("14: its version", 2, house.read(1, 1, 3));
        Check.is("14: its value's version", 0, house.read(1, 1, 1));
        Check.is("14: beside they stay", 255, house.read(1, 4, 9));
        Check.is("14: what is made gets them", 6, plain(house, 0, 3, 4));
        Check.is("14: those of its parent", 3 + 16 * 15, house.read(0, 6, 9));
        Check.is("14: with the version 0", 0, house.read(0, 6, 3));
        Check.is("14: all below the node 0", 6, house.rights(0, 0, 15, 1, true));
        Check.is("14: no right", Leasehall.NO_RIGHT, house.rights(1, 6, 15, 15, false));
        Check.is("14: just the node's are asked", 1, house.rights(0, 1, 15, 15, false));
        Check.is("14: so below they are given", 4, house.rights(1, 1, 15, 2, true));
        for (int node : new int[] {5, 7, 80, -1, Integer.MAX_VALUE, Integer.MIN_VALUE}) {
            Check.is("14: no node " + node, Leasehall.NO_NODE, house.rights(0, node, 0, 0, true));
        }
        Check.is("14: the changes", 12, house.changes());
        Check.is("14: the same ones are set, too", 1, house.rights(1, 1, 15, 2, false));
        Check.is("14: which is a change", 13, house.changes());
    }

    private static void promise14Thrown() {
        Leasehall house = house();
        Check.fails("14: no session", Check.RANGE, () -> house.rights(2, 0, 16, 0, true));
        Check.fails("14: read 16", Check.ARGUMENT, () -> house.rights(0, 0, 16, 0, true));
        Check.fails("14: read -1", Check.ARGUMENT, () -> house.rights(0, 0, -1, 0, true));
        Check.fails("14: write 16", Check.ARGUMENT, () -> house.rights(0, 0, 0, 16, true));
        Check.fails("14: write -1", Check.ARGUMENT, () -> house.rights(0, 0, 0, -1, true));
        house.close(1);
        Check.fails("14: it has ended", Check.STATE, () -> house.rights(1, 0, 0, 0, true));
        Check.fails("14: write 16 ahead of that", Check.ARGUMENT, () -> house.rights(1, 0, 0, 16, true));
        sixAreGathered(house);
        Check.fails("14: the seventh", Check.STATE, () -> house.rights(0, 0, 1, 0, true));
        Check.is("14: nothing is changed", 0, house.changes());
    }

    private static void promise15() {
        Leasehall house = house();
        plain(house, 0, 0, 1);
        house.set(0, 1, 5, 0);
        Check.is("15: the version", 1, house.check(0, 1, 1));
        Check.is("15: of any", 1, house.check(0, 1, ANY));
        Check.is("15: another", Leasehall.BAD_VERSION, house.check(0, 1, 0));
        Check.is("15: no change", 2, house.changes());
        house.open(2, 2, 50);
        Check.is("15: the version 0", 0, house.check(2, 0, 0));
        Check.is("15: is one that is done, too", 2, house.ping(2));
        Check.is("15: one that is refused lets its server get nothing", -3, house.check(1, 1, 0));
        Check.is("15: as it shows", 0, house.ping(1));
        Check.is("15: one that is done", 1, house.check(1, 1, 1));
        Check.is("15: lets its server get all", 2, house.ping(1));
        house.rights(0, 1, 1, 15, false);
        Check.is("15: the right to read is asked", Leasehall.NO_RIGHT, house.check(1, 1, 7));
        house.rights(0, 1, 2, 1, false);
        Check.is("15: not that to write", 1, house.check(1, 1, 1));
        for (int node : new int[] {2, 80, -1, Integer.MAX_VALUE, Integer.MIN_VALUE}) {
            Check.is("15: no node " + node, Leasehall.NO_NODE, house.check(0, node, 5));
        }
        Check.fails("15: no session", Check.RANGE, () -> house.check(3, 0, 0));
        house.close(1);
        Check.fails("15: it has ended", Check.STATE, () -> house.check(1, 0, 0));
        sixAreGathered(house);
        Check.fails("15: the seventh", Check.STATE, () -> house.check(0, 0, 0));
    }

    private static void promise16() {
        Leasehall house = house();
        Check.fails("16: no session", Check.RANGE, () -> house.gather(2));
        house.gather(0);
        Check.fails("16: already", Check.STATE, () -> house.gather(0));
        Check.is("16: in place of doing", Leasehall.GATHERED, house.set(0, 0, 5, ANY));
        Check.is("16: also what will be refused", Leasehall.GATHERED, house.delete(0, 0, 7));
        Check.is("16: nothing is done", 0, house.read(0, 0, 0));
        Check.is("16: another does", 1, house.set(1, 0, 6, ANY));
        house.close(1);
        Check.fails("16: it has ended", Check.STATE, () -> house.gather(1));
        Check.is("16: the second is refused", -2, house.done(0));
        house.gather(0);
        Check.is("16: from now on, without those of before", 1, house.done(0));
    }

    private static void promise17() {
        Leasehall house = house();
        Check.fails("17: no session", Check.RANGE, () -> house.done(2));
        Check.fails("17: it does not gather", Check.STATE, () -> house.done(0));
        house.gather(1);
        house.make(1, 0, 1, false, 3, Leasehall.CONTAINER, 0);
        house.make(1, 1, 1, true, 4, Leasehall.PLAIN, 0);
        house.set(1, 2, 5, 0);
        house.check(1, 2, 1);
        house.rights(1, 0, 15, 15, true);
        house.delete(1, 2, 1);
        house.make(0, 0, 5, false, 0, Leasehall.OF_SESSION, 0);
        Check.is("17: refused, since another was faster to its number", -2, house.done(1));
        house.gather(1);
        house.make(1, 0, 1, false, 3, Leasehall.CONTAINER, 0);
        house.make(1, 2, 1, true, 4, Leasehall.PLAIN, 0);
        house.set(1, 3, 5, 0);
        house.check(1, 3, 1);
        house.rights(1, 0, 15, 15, true);
        house.delete(1, 3, 1);
        Check.is("17: the change", 2, house.done(1));
        int[] due = {2, 3, 1, 1, 4, 2, Leasehall.NONE};
        for (int i = 0; i < due.length; i++) {
            Check.is("17: answer " + i, due[i], house.answer(1, i));
        }
        Check.is("17: its server has it", 2, house.ping(1));
        Check.is("17: one change", 2, house.changedAt(3, 0, 0));
        Check.is("17: that is once", Leasehall.NONE, house.changedAt(3, 0, 1));
        Check.fails("17: not any more then", Check.STATE, () -> house.done(1));
        house.gather(0);
        house.close(0);
        Check.fails("17: it has ended", Check.STATE, () -> house.done(0));
    }

    private static void promise17None() {
        Leasehall house = house();
        plain(house, 0, 0, 1);
        house.gather(0);
        house.set(0, 1, 7, ANY);
        house.make(0, 1, 2, false, 0, Leasehall.PLAIN, 0);
        house.set(0, 1, 8, 5);
        house.set(0, 1, 9, 5);
        Check.is("17: the third is refused", -3, house.done(0));
        Check.is("17: none is done", 0, house.read(0, 1, 0));
        Check.is("17: no child", 0, house.read(0, 1, 6));
        Check.is("17: no version", 0, house.read(0, 1, 1));
        Check.is("17: no change", 1, house.changes());
        Check.is("17: no number is taken", 2, plain(house, 0, 1, 2));
        Check.fails("17: it does not gather any more", Check.STATE, () -> house.done(0));
        house.gather(1);
        house.check(1, 1, 0);
        house.check(1, 0, ANY);
        Check.is("17: checks alone make no change", 2, house.done(1));
        Check.is("17: but are done", 2, house.ping(1));
    }

    private static void promise17Nothing() {
        Leasehall house = house();
        house.open(2, 2, 1);
        house.watch(1, 0, Leasehall.CHILDREN);
        plain(house, 0, 0, 1);
        plain(house, 0, 1, 1);
        house.gather(1);
        house.check(1, 9, ANY);
        Check.is("17: what is refused lets its server get nothing", -1, house.done(1));
        Check.is("17: as it shows", 0, house.ping(1));
        house.gather(1);
        Check.is("17: nor does gather()", 0, house.ping(1));
        Check.is("17: without acts, the last change", 2, house.done(1));
        Check.is("17: its server gets all", 2, house.ping(1));
        Check.is("17: and more do not come", 0, house.follow(1, 20));
        Check.is("17: a watch is told by that", 10 + Leasehall.MADE, house.hear(1));
        Check.is("17: the other server gets nothing", 2, house.follow(2, 20));
        Check.is("17: nothing was answered", Leasehall.NONE, house.answer(1, 0));
        Check.is("17: no change is made", 2, house.changes());
        Check.fails("17: it gathers no more", Check.STATE, () -> house.done(1));
        house.set(0, 0, 3, ANY);
        house.pass(1);
        Check.fails("17: one that has ended", Check.STATE, () -> house.done(2));
        Check.fails("17: one that does not gather", Check.STATE, () -> house.done(1));
        Check.is("17: when thrown its server gets nothing", 1, house.sync(1));
    }

    private static void promise17First() {
        Leasehall house = house();
        house.gather(0);
        house.set(0, 1, 7, ANY);
        house.set(0, 0, 7, ANY);
        house.set(0, 2, 7, ANY);
        Check.is("17: the first is refused", -1, house.done(0));
        Check.is("17: none is done", 0, house.changes());
        int[] due = {Leasehall.NO_NODE, Leasehall.SKIPPED, Leasehall.SKIPPED, Leasehall.NONE};
        for (int i = 0; i < due.length; i++) {
            Check.is("17: the answer " + i, due[i], house.answer(0, i));
        }
    }

    private static void promise17Lease() {
        Leasehall house = house();
        house.lease(2);
        house.gather(0);
        house.make(0, 0, 1, false, 0, Leasehall.OF_LEASE, 0);
        house.pass(2);
        Check.is("17: made also if its lease has ended", 1, house.done(0));
        house.pass(1);
        Check.is("17: it stays", Leasehall.OF_LEASE, house.read(0, 1, 7));
        house.gather(0);
        house.make(0, 0, 2, false, 0, Leasehall.CONTAINER, 0);
        house.make(0, 2, 3, false, 0, Leasehall.PLAIN, 0);
        house.delete(0, 3, ANY);
        house.make(0, 2, 4, false, 0, Leasehall.PLAIN, 0);
        Check.is("17: a container goes right behind its last child", -4, house.done(0));
    }

    private static void promise18() {
        Leasehall house = house();
        Check.is("18: nothing was gathered", Leasehall.NONE, house.answer(0, 0));
        Check.fails("18: no session", Check.RANGE, () -> house.answer(2, 0));
        Check.fails("18: place -1", Check.RANGE, () -> house.answer(0, -1));
        house.gather(0);
        house.set(0, 0, 1, ANY);
        house.set(0, 9, 1, ANY);
        house.set(0, 0, 1, ANY);
        Check.is("18: not ahead of done()", Leasehall.NONE, house.answer(0, 0));
        house.done(0);
        int[] due = {1, Leasehall.NO_NODE, Leasehall.SKIPPED, Leasehall.NONE};
        for (int i = 0; i < due.length; i++) {
            Check.is("18: place " + i, due[i], house.answer(0, i));
        }
        Check.is("18: of another", Leasehall.NONE, house.answer(1, 0));
        Check.is("18: far", Leasehall.NONE, house.answer(0, Integer.MAX_VALUE));
        house.set(0, 0, 5, ANY);
        Check.is("18: an act by itself does not matter", Leasehall.NO_NODE, house.answer(0, 1));
        house.gather(0);
        house.set(0, 0, 4, 1);
        Check.is("18: those of before, until it is done", Leasehall.SKIPPED, house.answer(0, 2));
        house.done(0);
        Check.is("18: the new one", 2, house.answer(0, 0));
        Check.is("18: not so many", Leasehall.NONE, house.answer(0, 1));
        house.close(0);
        Check.is("18: it may have ended", 2, house.answer(0, 0));
    }

    private static void promise19() {
        Leasehall house = house();
        plain(house, 0, 0, 1);
        house.lose(true);
        Check.is("19: set", Leasehall.LOST, house.set(1, 1, 5, 0));
        Check.is("19: it is done", 5, house.read(1, 1, 0));
        Check.is("19: just the next", 2, house.set(1, 1, 6, 1));
        house.lose(false);
        Check.is("19: make", Leasehall.LOST, plain(house, 0, 1, 1));
        Check.is("19: it is not done", 0, house.read(0, 1, 6));
        Check.is("19: no change", 3, house.changes());
        Check.is("19: its number is free", 2, plain(house, 0, 1, 1));
        house.lose(true);
        house.lose(false);
        Check.is("19: refused is not that call", Leasehall.EXISTS, plain(house, 0, 1, 1));
        house.gather(0);
        Check.is("19: nor gathered", Leasehall.GATHERED, house.check(0, 1, 2));
        house.gather(1);
        Check.is("19: nor without acts", 4, house.done(1));
        Check.is("19: the one told last counts", Leasehall.LOST, house.rights(1, 1, 0, 0, true));
        Check.is("19: so it is not done", 255, house.read(0, 1, 9));
        house.lose(true);
        Check.is("19: done()", Leasehall.NONE, house.done(0));
        Check.is("19: what it would have answered", 2, house.answer(0, 0));
        house.lose(true);
        Check.is("19: delete", Leasehall.LOST, house.delete(0, 2, ANY));
        Check.is("19: it is gone", Leasehall.NO_NODE, house.delete(0, 2, ANY));
    }

    private static void promise19Nothing() {
        Leasehall house = house();
        plain(house, 0, 0, 1);
        house.lose(false);
        house.gather(1);
        Check.is("19: done() without acts is not lost", 1, house.done(1));
        Check.is("19: and lets its server get all", 1, house.ping(1));
        Check.is("19: the next act is", Leasehall.LOST, house.set(0, 0, 3, ANY));
        Check.is("19: and not done", 1, house.changes());
        house.gather(1);
        Check.is("19: nor is the one behind it", 1, house.done(1));
        Check.is("19: then acts answer again", 1, house.set(0, 0, 3, ANY));
    }

    private static void promise19Restored() {
        Leasehall house = house();
        house.snapshot();
        house.lose(true);
        house.restore();
        house.open(0, 0, 50);
        Check.is("19: told ahead of a restore", Leasehall.LOST, house.set(2, 0, 3, ANY));
        Check.is("19: and done", 3, house.read(2, 0, 0));
    }

    private static void promise19Servers() {
        Leasehall house = house();
        house.set(0, 0, 5, ANY);
        house.lose(false);
        Check.is("19: a check that is not done", Leasehall.LOST, house.check(1, 0, 1));
        Check.is("19: lets its server get nothing", 0, house.ping(1));
        house.lose(true);
        Check.is("19: a check that is done", Leasehall.LOST, house.check(1, 0, 1));
        Check.is("19: lets its server get all", 1, house.ping(1));
        house.set(0, 0, 6, ANY);
        house.lose(false);
        house.gather(1);
        house.set(1, 0, 7, 2);
        house.set(1, 0, 8, 3);
        Check.is("19: several, not done", Leasehall.NONE, house.done(1));
        Check.is("19: their answers", 4, house.answer(1, 1));
        Check.is("19: its server gets nothing", 1, house.ping(1));
        Check.is("19: the value stays", 6, house.read(0, 0, 0));
        house.lose(true);
        house.gather(1);
        house.set(1, 0, 7, 1);
        Check.is("19: a refused one is not lost", -1, house.done(1));
        Check.is("19: the next is", Leasehall.LOST, house.check(0, 0, ANY));
    }

    private static void promise20() {
        Leasehall house = house();
        plain(house, 0, 0, 1);
        plain(house, 0, 1, 1);
        plain(house, 0, 2, 1);
        Check.fails("20: -1", Check.ARGUMENT, () -> house.quota(0, -1));
        Check.fails("20: 81", Check.ARGUMENT, () -> house.quota(9, 81));
        Check.is("20: how many are below", 3, house.quota(0, 80));
        Check.is("20: below 1", 2, house.quota(1, 2));
        Check.is("20: below 3", 0, house.quota(3, 80));
        for (int node : new int[] {4, 80, -1, Integer.MAX_VALUE, Integer.MIN_VALUE}) {
            Check.is("20: no node " + node, Leasehall.NO_NODE, house.quota(node, 0));
        }
        Check.is("20: no change", 3, house.changes());
        Check.is("20: its own children", Leasehall.QUOTA, plain(house, 0, 1, 2));
        Check.is("20: far below", Leasehall.QUOTA, plain(house, 0, 3, 2));
        Check.is("20: beside", 4, plain(house, 0, 0, 2));
        Check.is("20: fewer than there are", 2, house.quota(1, 0));
        house.delete(0, 3, ANY);
        Check.is("20: still too many", Leasehall.QUOTA, plain(house, 0, 2, 2));
        Check.is("20: one more", 1, house.quota(1, 2));
        Check.is("20: is one more", 5, plain(house, 0, 2, 2));
        Check.is("20: and no more", Leasehall.QUOTA, plain(house, 0, 2, 3));
    }

    public static void main(String[] args) {
        promise11();
        promise11Refused();
        promise11Thrown();
        promise11Full();
        promise12();
        promise13();
        promise13Rights();
        promise14();
        promise14Thrown();
        promise15();
        promise16();
        promise17();
        promise17None();
        promise17Nothing();
        promise17First();
        promise17Lease();
        promise18();
        promise19();
        promise19Nothing();
        promise19Restored();
        promise19Servers();
        promise20();
        Check.end("promises 11 to 20");
    }
}
