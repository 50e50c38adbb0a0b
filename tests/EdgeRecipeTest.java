/** The sentences of the terms under RECIPES that name an edge, each at that edge. */
final class EdgeRecipeTest {
    private static final int ANY = Leasehall.ANY;

    private EdgeRecipeTest() {
    }

    /** Ten sessions at the server 0, and the node 1. */
    private static Leasehall house() {
        Leasehall house = new Leasehall();
        for (int i = 0; i < 10; i++) {
            house.open(i % 4, 0, 50);
        }
        plain(house, 0, 1, 0);
        return house;
    }

    private static int plain(Leasehall house, int parent, int name, int value) {
        return house.make(0, parent, name, false, value, Leasehall.PLAIN, 0);
    }

    /** "its first one, by names, is shared, and no child with a lower name has the value 0; or it is not, and ...". */
    private static void locks() {
        for (int wanted = 0; wanted < 16; wanted++) {
            Leasehall house = house();
            boolean onlyShared = true;
            for (int i = 0; i < 4; i++) {
                boolean shared = (wanted >> i) % 2 == 1;
                house.want(i, 1, shared);
                onlyShared &= shared;
                boolean has = shared ? onlyShared : i == 0;
                Check.is("wanted " + wanted + ", session " + i, has ? 2 + i : Leasehall.NONE, house.has(i, 1));
                Check.is("believed so", has, (house.believers(1) >> i) % 2 == 1);
            }
            Check.is("who wants it not has it not", Leasehall.NONE, house.has(4, 1));
        }
    }

    /** The same, with two children of other people's values and names around its own. */
    private static void lowerNames() {
        int[] values = {-1, 0, 1, 2, 1000};
        for (int value : values) {
            for (int own : new int[] {0, 1}) {
                Leasehall house = house();
                plain(house, 1, 49, value);
                house.make(1, 1, 50, false, own, Leasehall.OF_SESSION, 0);
                plain(house, 1, 51, 0);
                boolean has = own == 1 && value != 0;
                Check.is("behind the value " + value + ", own " + own, has ? 3 : Leasehall.NONE, house.has(1, 1));
                house.delete(0, 2, ANY);
                Check.is("a higher name does not matter", 3, house.has(1, 1));
                house.make(0, 1, 0, true, 0, Leasehall.PLAIN, 0);
                Check.is("nor one that is numbered", 3, house.has(1, 1));
                plain(house, 1, 0, value);
                Check.is("the lowest name, " + value, has ? 3 : Leasehall.NONE, house.has(1, 1));
            }
        }
    }

    /** "its first one, by names": just that one counts, and just its own. */
    private static void firstOfSeveral() {
        Leasehall house = house();
        house.want(1, 1, false);
        house.want(1, 1, true);
        Check.is("the first", 2, house.has(1, 1));
        house.make(1, 1, 5, false, 1, Leasehall.OF_SESSION, 0);
        Check.is("one with a lower name", 4, house.has(1, 1));
        house.make(1, 1, 2, false, 0, Leasehall.PLAIN, 0);
        Check.is("a plain one is not its own", Leasehall.NONE, house.has(1, 1));
        house.lease(9);
        house.make(1, 1, 1, false, 1, Leasehall.OF_LEASE, 0);
        Check.is("nor one of a lease", Leasehall.NONE, house.has(1, 1));
        house.delete(0, 5, ANY);
        Check.is("behind the one of the lease, which is shared", 4, house.has(1, 1));
        Check.is("of another session with the lease's number", Leasehall.NONE, house.has(0, 1));
        Check.is("the first goes", 1, house.giveUp(1, 1));
        Check.is("the next is not shared, and behind one", Leasehall.NONE, house.has(1, 1));
        Check.is("the next goes", 1, house.giveUp(1, 1));
        Check.is("the last is shared", 3, house.has(1, 1));
        Check.is("the last goes", 1, house.giveUp(1, 1));
        Check.is("none is left", 0, house.giveUp(1, 1));
    }

    /** "the sum of 2 to the power of each": from none to ten. */
    private static void believers() {
        Leasehall house = house();
        int due = 0;
        for (int i = 0; i < 10; i++) {
            house.want(i, 1, true);
            Check.is("not before it asks", due, house.believers(1));
            house.has(i, 1);
            due += 1 << i;
            Check.is("when it has asked", due, house.believers(1));
        }
        Check.is("all ten", 1023, house.believers(1));
        house.giveUp(0, 1);
        Check.is("all but the first", 1022, house.believers(1));
        house.close(9);
        Check.is("nor the last", 510, house.believers(1));
        house.delete(0, 3, ANY);
        Check.is("what has gone is believed", 510, house.believers(1));
        house.has(1, 1);
        Check.is("until it is asked", 508, house.believers(1));
        house.snapshot();
        house.restore();
        Check.is("also behind a restore", 508, house.believers(1));
        Check.fails("one is told", Check.STATE, () -> house.ping(2));
        Check.is("that one does not", 504, house.believers(1));
    }

    private static void believersOfLastNode() {
        Leasehall house = house();
        for (int i = 2; i < 79; i++) {
            plain(house, 0, i, 0);
        }
        house.want(9, 78, false);
        Check.is("the 80th node is the lock's child", 79, house.has(9, 78));
        Check.is("believed", 512, house.believers(78));
        Check.is("of the node 79 nobody", 0, house.believers(79));
        Check.is("a node of a session is no lock that is had", Leasehall.NONE, house.has(9, 79));
        Check.is("it goes", 1, house.giveUp(9, 78));
        Check.is("nobody believes", 0, house.believers(78));
    }

    /** "A lock is any node": the first one, too. */
    private static void believersOfNode0() {
        for (int way = 0; way < 3; way++) {
            Leasehall house = new Leasehall();
            house.open(0, 0, 2);
            house.want(0, 0, false);
            Check.is("it has it", 1, house.has(0, 0));
            Check.is("and believes so", 1, house.believers(0));
            house.want(0, 0, false);
            switch (way) {
                case 0: Check.is("given up", 1, house.giveUp(0, 0)); break;
                case 1: Check.is("closed", 2, house.close(0)); break;
                default:
                    house.pass(2);
                    Check.is("lapsed", 1, house.believers(0));
                    Check.fails("told so", Check.STATE, () -> house.close(0));
            }
            Check.is("then it does not", 0, house.believers(0));
        }
    }

    /** "was told so when it asked last": each asking counts, also at a server that is behind. */
    private static void askedBehind() {
        Leasehall house = new Leasehall();
        house.open(0, 0, 50);
        house.open(0, 1, 4);
        plain(house, 0, 1, 0);
        house.want(1, 1, false);
        Check.is("it has it", 2, house.has(1, 1));
        house.delete(0, 2, ANY);
        house.want(0, 1, false);
        Check.is("another has it", 4, house.has(0, 1));
        Check.is("its server is behind", 2, house.has(1, 1));
        Check.is("two believe", 3, house.believers(1));
        house.sync(1);
        Check.is("two believe still", 3, house.believers(1));
        Check.is("it asks", Leasehall.NONE, house.has(1, 1));
        Check.is("one believes", 1, house.believers(1));
        house.pass(4);
        Check.fails("an ended one asks", Check.STATE, () -> house.has(1, 1));
        Check.is("the other believes still", 1, house.believers(1));
    }

    /** "did not give it up, nor close itself, nor was told that it has ended". */
    private static void endsOfBelief() {
        for (int way = 0; way < 6; way++) {
            Leasehall house = house();
            house.want(1, 1, false);
            house.has(1, 1);
            plain(house, 0, 0, 0);
            house.want(1, 3, true);
            house.has(1, 3);
            Check.is("believed, way " + way, 4, house.believers(1) + house.believers(3));
            boolean both = endsBelief(house, way);
            Check.is("of the lock, way " + way, way < 4 ? 0 : 2, house.believers(1));
            Check.is("of the other lock, way " + way, both ? 0 : 2, house.believers(3));
        }
    }

    private static boolean endsBelief(Leasehall house, int way) {
        switch (way) {
            case 0: Check.is("given up", 1, house.giveUp(1, 1)); return false;
            case 1: Check.is("closed", 2, house.close(1)); return true;
            case 2: house.delete(0, 2, ANY); Check.is("given up", 0, house.giveUp(1, 1)); return false;
            case 3:
                house.pass(50);
                Check.fails("told so", Check.STATE, () -> house.sync(1));
                return true;
            case 4: Check.is("lapsed, but not told", 50, house.pass(50)); return false;
            default: Check.fails("told of another thing", Check.STATE, () -> house.done(1)); return false;
        }
    }

    /** "A barrier is open, if a node has so many children as told." */
    private static void barriers() {
        for (int children = 0; children <= 4; children++) {
            Leasehall house = house();
            for (int i = 0; i < children; i++) {
                plain(house, 1, i, 0);
            }
            for (int many = 1; many <= 5; many++) {
                Check.is(children + " of " + many, children >= many, house.isOpen(1, 1, many));
            }
            if (children > 1) {
                plain(house, 2, 0, 0);
                Check.is("what is below them does not count", false, house.isOpen(1, 1, children + 1));
                house.delete(0, 1 + children, ANY);
                Check.is("one that went does not count", false, house.isOpen(1, 1, children));
                Check.is("the others do", true, house.isOpen(1, 1, children - 1));
            }
        }
    }

    /** "to let the child with the lowest name go (of those without children)". */
    private static void queues() {
        Leasehall house = house();
        Check.is("none", Leasehall.NONE, house.takeFirst(1, 1));
        house.make(0, 1, 0, true, 30, Leasehall.PLAIN, 0);
        plain(house, 1, 99, 20);
        plain(house, 1, 0, -10);
        plain(house, 4, 7, 8);
        Check.is("the lowest has a child", 20, house.takeFirst(1, 1));
        Check.is("a numbered one is behind the named", 30, house.takeFirst(1, 1));
        Check.is("none without children", Leasehall.NONE, house.takeFirst(1, 1));
        Check.is("which is no change", 7, house.changes());
        Check.is("the child's child", 8, house.takeFirst(1, 4));
        Check.is("now it has none", -10, house.takeFirst(1, 1));
        Check.is("none is left", Leasehall.NONE, house.takeFirst(1, 1));
        Check.is("of one that went", Leasehall.NO_NODE, house.takeFirst(1, 4));
        plain(house, 1, 5, -1000);
        Check.is("the lowest value", -1000, house.takeFirst(1, 1));
        plain(house, 1, 5, 1000);
        Check.is("the greatest value", 1000, house.takeFirst(1, 1));
    }

    /** "NO_NODE, or NO_RIGHT, for the queue": what the child's rights are does not matter. */
    private static void queueRights() {
        Leasehall house = house();
        plain(house, 1, 5, 44);
        house.rights(0, 2, 0, 0, false);
        house.rights(0, 1, 13, 2, false);
        Check.is("who may not write", Leasehall.NO_RIGHT, house.takeFirst(0, 1));
        Check.is("who may write, but not read", 44, house.takeFirst(1, 1));
        Check.is("NO_RIGHT ahead of NONE", Leasehall.NO_RIGHT, house.takeFirst(0, 1));
        Check.is("NONE", Leasehall.NONE, house.takeFirst(1, 1));
    }

    /** "it takes a number with a fence, if that is not below the greatest one that it has taken". */
    private static void stores() {
        for (int fence : new int[] {0, 1, 2, 5000, 9999, 10000}) {
            Leasehall house = new Leasehall();
            Check.is("the first", true, house.store(fence, 1));
            Check.is("the same", true, house.store(fence, 2));
            if (fence > 0) {
                Check.is("one less", false, house.store(fence - 1, 3));
                Check.is("0", false, house.store(0, 3));
            }
            Check.is("what is not taken is not there", 2, house.stored());
            if (fence < 10000) {
                Check.is("one more", true, house.store(fence + 1, 4));
                Check.is("as before", false, house.store(fence, 5));
                Check.is("the last one taken", 4, house.stored());
            }
        }
    }

    /** "0 at first". */
    private static void storeAtFirst() {
        Leasehall house = new Leasehall();
        Check.is("at first", 0, house.stored());
        Check.fails("a bad one", Check.ARGUMENT, () -> house.store(-1, 7));
        Check.is("still", 0, house.stored());
        Check.is("the least fence", true, house.store(0, 7));
        Check.is("the number", 7, house.stored());
    }

    private static void storeStays() {
        Leasehall house = house();
        house.store(3, 4);
        house.snapshot();
        house.store(5, 6);
        house.restore();
        Check.is("it is beside what is restored", 6, house.stored());
        Check.is("so is its fence", false, house.store(4, 7));
        Check.fails("a bad one", Check.ARGUMENT, () -> house.store(10001, 7));
        Check.is("is not taken", 6, house.stored());
        Check.is("nor is its fence", true, house.store(5, 8));
    }

    public static void main(String[] args) {
        locks();
        lowerNames();
        firstOfSeveral();
        believers();
        believersOfLastNode();
        believersOfNode0();
        askedBehind();
        endsOfBelief();
        barriers();
        queues();
        queueRights();
        stores();
        storeAtFirst();
        storeStays();
        Check.end("edges of recipes");
    }
}
