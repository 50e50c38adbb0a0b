/** Promises 21 to 24: reading, children by names, watches, hearing. */
final class WatchTest {
    private static final int ANY = Leasehall.ANY;

    private WatchTest() {
    }

    /** The sessions 0 (person 0, server 0) and 1 (person 1, server 1). */
    private static Leasehall house() {
        Leasehall house = new Leasehall();
        house.open(0, 0, 50);
        house.open(1, 1, 50);
        return house;
    }

    private static int plain(Leasehall house, int parent, int name) {
        return house.make(0, parent, name, false, 0, Leasehall.PLAIN, 0);
    }

    private static void promise21() {
        Leasehall house = house();
        plain(house, 0, 42);
        house.make(0, 1, 0, true, -7, Leasehall.OF_SESSION, 0);
        house.set(0, 2, 8, 0);
        house.rights(0, 2, 5, 3, false);
        plain(house, 1, 9);
        int[] due = {8, 1, 0, 1, 1, 1000, 0, Leasehall.OF_SESSION, 2, 5 + 16 * 3};
        for (int what = 0; what < due.length; what++) {
            Check.is("21: what " + what, due[what], house.read(0, 2, what));
        }
        Check.is("21: children", 2, house.read(0, 1, 6));
        Check.is("21: versions of children", 2, house.read(0, 1, 2));
        Check.is("21: the node 0's parent", Leasehall.NONE, house.read(0, 0, 4));
        Check.is("21: the node 0's name", Leasehall.NONE, house.read(0, 0, 5));
        Check.is("21: the node 0's change", 0, house.read(0, 0, 8));
        Check.is("21: its server has it not", Leasehall.NO_NODE, house.read(1, 1, 0));
        house.follow(1, 2);
        Check.is("21: as its server has it", -7, house.read(1, 2, 0));
        Check.is("21: with the rights of then", 255, house.read(1, 2, 9));
        house.follow(1, 2);
        Check.is("21: its person may not", Leasehall.NO_RIGHT, house.read(1, 2, 0));
        Check.is("21: nor its rights", Leasehall.NO_RIGHT, house.read(1, 2, 9));
        for (int node : new int[] {4, 79, 80, -1, -100, Integer.MAX_VALUE, Integer.MIN_VALUE}) {
            Check.is("21: no node " + node, Leasehall.NO_NODE, house.read(0, node, 0));
        }
        Check.fails("21: no session", Check.RANGE, () -> house.read(2, 0, 10));
        Check.fails("21: what 10", Check.ARGUMENT, () -> house.read(0, 0, 10));
        Check.fails("21: what -1", Check.ARGUMENT, () -> house.read(0, 77, -1));
        house.close(1);
        Check.fails("21: it has ended", Check.STATE, () -> house.read(1, 0, 0));
        Check.fails("21: what 10 ahead of that", Check.ARGUMENT, () -> house.read(1, 0, 10));
    }

    private static void promise22() {
        Leasehall house = house();
        house.make(0, 0, 0, true, 0, Leasehall.PLAIN, 0);
        plain(house, 0, 99);
        plain(house, 0, 0);
        house.make(0, 0, 0, true, 0, Leasehall.PLAIN, 0);
        plain(house, 0, 50);
        plain(house, 2, 1);
        int[] due = {3, 5, 2, 1, 4, Leasehall.NONE};
        for (int place = 0; place < due.length; place++) {
            Check.is("22: place " + place, due[place], house.child(0, 0, place));
        }
        Check.is("22: far", Leasehall.NONE, house.child(0, 0, Integer.MAX_VALUE));
        Check.is("22: none", Leasehall.NONE, house.child(0, 3, 0));
        Check.is("22: its server has none", Leasehall.NONE, house.child(1, 0, 0));
        Check.is("22: nor the node", Leasehall.NO_NODE, house.child(1, 2, 0));
        house.rights(0, 2, 1, 15, false);
        house.sync(1);
        Check.is("22: its person may not", Leasehall.NO_RIGHT, house.child(1, 2, 0));
        Check.is("22: may", 6, house.child(0, 2, 0));
        house.delete(0, 5, ANY);
        Check.is("22: without one that went", 2, house.child(0, 0, 1));
        for (int node : new int[] {5, 80, -1, -100, Integer.MAX_VALUE, Integer.MIN_VALUE}) {
            Check.is("22: no node " + node, Leasehall.NO_NODE, house.child(0, node, 0));
        }
        Check.fails("22: no session", Check.RANGE, () -> house.child(2, 0, 0));
        Check.fails("22: place -1", Check.RANGE, () -> house.child(0, 0, -1));
        house.close(1);
        Check.fails("22: it has ended", Check.STATE, () -> house.child(1, 0, 0));
        Check.fails("22: place -1 ahead of that", Check.RANGE, () -> house.child(1, 0, -1));
    }

    private static void promise23() {
        Leasehall house = house();
        plain(house, 0, 1);
        for (int i = 1; i <= 8; i++) {
            Check.is("23: so many then", i, house.watch(0, i % 2, i % 3));
        }
        Check.fails("23: the ninth", Check.STATE, () -> house.watch(0, 0, 0));
        Check.fails("23: the ninth, of no node", Check.STATE, () -> house.watch(0, 9, 0));
        Check.fails("23: the ninth, of a bad kind", Check.ARGUMENT, () -> house.watch(0, 9, 3));
        house.set(0, 1, 5, ANY);
        Check.is("23: one was told and is gone", 8, house.watch(0, 0, 2));
        Check.is("23: no node at its server", Leasehall.NO_NODE, house.watch(1, 1, 0));
        Check.is("23: the node 0 is there", 1, house.watch(1, 0, 1));
        house.rights(0, 1, 1, 15, false);
        house.sync(1);
        Check.is("23: it was told", 1, house.watch(1, 0, 0));
        Check.is("23: no right", Leasehall.NO_RIGHT, house.watch(1, 1, 0));
        Check.is("23: which sets none", 2, house.watch(1, 0, 0));
        for (int node : new int[] {2, 80, -1, Integer.MAX_VALUE, Integer.MIN_VALUE}) {
            Check.is("23: no node " + node, Leasehall.NO_NODE, house.watch(1, node, 0));
        }
        Check.fails("23: no session", Check.RANGE, () -> house.watch(2, 0, 3));
        Check.fails("23: kind 3", Check.ARGUMENT, () -> house.watch(1, 0, 3));
        Check.fails("23: kind -1", Check.ARGUMENT, () -> house.watch(1, 0, -1));
        house.close(1);
        Check.fails("23: it has ended", Check.STATE, () -> house.watch(1, 0, 0));
        Check.fails("23: kind 3 ahead of that", Check.ARGUMENT, () -> house.watch(1, 0, 3));
    }

    private static void promise24Value() {
        Leasehall house = house();
        plain(house, 0, 1);
        plain(house, 1, 1);
        house.watch(0, 1, Leasehall.VALUE);
        house.watch(0, 2, Leasehall.VALUE);
        plain(house, 1, 2);
        house.rights(0, 1, 15, 15, true);
        house.check(0, 1, ANY);
        house.set(0, 0, 4, ANY);
        Check.hears("24: no value was set", house, 0);
        house.set(0, 1, 4, ANY);
        house.set(0, 1, 5, ANY);
        Check.hears("24: told once", house, 0, 11);
        house.delete(0, 2, ANY);
        Check.hears("24: told of its going", house, 0, 22);
        Check.is("24: both are gone", 1, house.watch(0, 0, Leasehall.VALUE));
    }

    private static void promise24Children() {
        Leasehall house = house();
        plain(house, 0, 1);
        house.watch(0, 1, Leasehall.CHILDREN);
        house.set(0, 1, 4, ANY);
        plain(house, 0, 2);
        Check.hears("24: no child was made", house, 0);
        plain(house, 1, 3);
        house.watch(0, 1, Leasehall.CHILDREN);
        house.set(0, 3, 4, ANY);
        plain(house, 3, 3);
        Check.hears("24: one was", house, 0, 30);
        house.delete(0, 4, ANY);
        house.delete(0, 3, ANY);
        Check.hears("24: one went", house, 0, 32);
        house.watch(0, 1, Leasehall.CHILDREN);
        house.delete(0, 1, ANY);
        Check.hears("24: the node itself went", house, 0, 12);
        Check.is("24: all are gone", 1, house.watch(0, 0, Leasehall.VALUE));
    }

    private static void promise24Branch() {
        Leasehall house = house();
        plain(house, 0, 1);
        house.watch(0, 1, Leasehall.BRANCH);
        house.set(0, 0, 1, ANY);
        plain(house, 0, 2);
        house.set(0, 1, 1, ANY);
        plain(house, 1, 2);
        plain(house, 3, 2);
        house.set(0, 4, 2, ANY);
        house.set(0, 4, 2, ANY);
        house.rights(0, 1, 15, 15, true);
        house.delete(0, 4, ANY);
        house.delete(0, 3, ANY);
        house.delete(0, 1, ANY);
        house.set(0, 2, 1, ANY);
        Check.hears("24: all of the branch", house, 0, 11, 30, 40, 41, 41, 42, 32, 12);
        Check.is("24: it is kept", 2, house.watch(0, 2, Leasehall.VALUE));
    }

    private static void promise24Order() {
        Leasehall house = house();
        house.make(0, 0, 1, false, 0, Leasehall.CONTAINER, 0);
        house.make(0, 1, 1, false, 0, Leasehall.CONTAINER, 0);
        plain(house, 2, 1);
        house.watch(0, 0, Leasehall.BRANCH);
        house.watch(0, 3, Leasehall.VALUE);
        house.watch(0, 2, Leasehall.CHILDREN);
        house.watch(0, 1, Leasehall.BRANCH);
        house.watch(0, 1, Leasehall.CHILDREN);
        house.gather(0);
        house.set(0, 3, 5, ANY);
        house.set(0, 0, 6, ANY);
        house.delete(0, 3, ANY);
        house.done(0);
        Check.hears("24: steps in order, each to watches in order", house, 0,
            31, 31, 31, 1, 32, 32, 32, 22, 22, 22, 12, 12);
    }

    private static void promise24Servers() {
        Leasehall house = house();
        plain(house, 0, 1);
        house.sync(1);
        house.watch(1, 0, Leasehall.BRANCH);
        house.set(0, 1, 5, ANY);
        house.set(0, 0, 6, ANY);
        Check.hears("24: its server is behind", house, 1);
        house.follow(1, 1);
        Check.hears("24: its server gets one", house, 1, 11);
        house.follow(2, 20);
        Check.hears("24: another server's do not matter", house, 1);
        plain(house, 1, 1);
        house.move(1, 2);
        Check.hears("24: what the other has more", house, 1, 1);
        house.follow(1, 20);
        Check.hears("24: the server that it left does not matter", house, 1);
        house.follow(2, 20);
        Check.hears("24: the new one does", house, 1, 20);
        house.set(1, 0, 7, ANY);
        Check.hears("24: what it did itself", house, 1, 1);
        house.watch(1, 1, Leasehall.VALUE);
        house.set(0, 1, 8, ANY);
        house.move(1, 0);
        Check.hears("24: both watches", house, 1, 11, 11);
    }

    /** A watch that is set later is not told of what its server had got before. */
    private static void promise24Later() {
        Leasehall house = house();
        plain(house, 0, 1);
        house.watch(0, 0, Leasehall.BRANCH);
        house.set(0, 1, 5, ANY);
        house.watch(0, 1, Leasehall.BRANCH);
        house.watch(0, 1, Leasehall.VALUE);
        house.set(0, 0, 5, ANY);
        Check.hears("24: just of what comes behind it", house, 0, 11, 1);
        house.gather(0);
        house.set(0, 1, 5, ANY);
        house.set(0, 7, 5, ANY);
        house.done(0);
        house.lose(false);
        house.set(0, 1, 6, ANY);
        Check.hears("24: nothing of what was not done", house, 0);
        house.lose(true);
        house.set(0, 1, 6, ANY);
        Check.hears("24: all of what was", house, 0, 11, 11, 11);
    }

    private static void promise24Long() {
        Leasehall house = house();
        for (int i = 0; i < 8; i++) {
            house.watch(0, 0, Leasehall.BRANCH);
        }
        int heard = 0;
        for (int i = 0; i < 200; i++) {
            house.set(0, 0, i, ANY);
            if (i % 3 == 0) {
                Check.is("24: the oldest", 1, house.hear(0));
                heard++;
            }
        }
        for (int i = heard; i < 200; i++) {
            Check.is("24: a long row", 1, house.hear(0));
        }
        longWithDifferences();
        Check.fails("24: no session", Check.RANGE, () -> house.hear(2));
        house.close(1);
        Check.fails("24: it has ended", Check.STATE, () -> house.hear(1));
    }

    /** Three are told, two are heard, again and again, so that a long row is used up and grows at once. */
    private static void longWithDifferences() {
        Leasehall house = house();
        for (int i = 1; i < 60; i++) {
            plain(house, 0, i);
        }
        house.watch(0, 0, Leasehall.BRANCH);
        int told = 0;
        int heard = 0;
        for (int round = 0; round < 60; round++) {
            for (int i = 0; i < 3; i++) {
                house.set(0, told % 59 + 1, 1, ANY);
                told++;
            }
            for (int i = 0; i < 2; i++) {
                Check.is("24: in turn", heard % 59 * 10 + 11, house.hear(0));
                heard++;
            }
        }
        while (heard < told) {
            Check.is("24: to the end", heard % 59 * 10 + 11, house.hear(0));
            heard++;
        }
        Check.hears("24: and nothing more", house, 0);
    }

    public static void main(String[] args) {
        promise21();
        promise22();
        promise23();
        promise24Value();
        promise24Children();
        promise24Branch();
        promise24Order();
        promise24Servers();
        promise24Later();
        promise24Long();
        Check.end("promises 21 to 24");
    }
}
