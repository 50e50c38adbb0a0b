/** The sentences of the terms under NODES, CHANGES that name an edge, each at that edge. */
final class EdgeTreeTest {
    private static final int ANY = Leasehall.ANY;

    private EdgeTreeTest() {
    }

    /** The session i is of the person i, at the server 0. */
    private static Leasehall house() {
        Leasehall house = new Leasehall();
        for (int i = 0; i < 4; i++) {
            house.open(i, 0, 50);
        }
        return house;
    }

    private static int plain(Leasehall house, int parent, int name) {
        return house.make(0, parent, name, false, 0, Leasehall.PLAIN, 0);
    }

    private static int numbered(Leasehall house, int parent, int kind) {
        return house.make(0, parent, 0, true, 0, kind, 0);
    }

    private static Leasehall withNodes(int last) {
        Leasehall house = house();
        for (int i = 1; i <= last; i++) {
            Check.is("numbered from 0, in the order in which they are made", i, numbered(house, 0, Leasehall.PLAIN));
        }
        return house;
    }

    /** "Nodes are numbered from 0, in the order in which they are made, at most 80". */
    private static void atMost80() {
        Leasehall house = withNodes(78);
        Check.is("the 80th, with the node 0", 79, plain(house, 78, 5));
        Check.is("80 are there", 79, house.quota(0, 80));
        Check.is("80 are there", 80, house.snapshot());
        Check.is("80 were made", Leasehall.FULL, plain(house, 79, 5));
        Check.is("80 were made", Leasehall.FULL, house.want(0, 0, true));
        Check.is("80 were made, one goes", 1, house.delete(0, 79, ANY));
        Check.is("80 were made, also if one has gone", Leasehall.FULL, plain(house, 0, 5));
        house.restore();
        int me = house.open(0, 0, 50);
        Check.is("80 were made, also if they are restored", Leasehall.FULL,
            house.make(me, 0, 5, false, 0, Leasehall.PLAIN, 0));
        Check.is("the last one is restored", 78, house.read(me, 79, 4));
    }

    /** Several acts of which the last one allowed takes the number 79. */
    private static void atMost80Gathered() {
        Leasehall house = withNodes(77);
        house.gather(0);
        for (int i = 0; i < 3; i++) {
            plain(house, 0, i);
        }
        Check.is("the third is one too many", -3, house.done(0));
        int[] due = {78, 79, Leasehall.FULL, Leasehall.NONE};
        for (int i = 0; i < due.length; i++) {
            Check.is("answer " + i, due[i], house.answer(0, i));
        }
        Check.is("none is done", 77, house.quota(0, 80));
        house.lose(false);
        Check.is("nor is what is lost", Leasehall.LOST, plain(house, 0, 5));
        house.gather(0);
        plain(house, 0, 1);
        plain(house, 0, 2);
        Check.is("two are not too many", 78, house.done(0));
        Check.is("80 are there", 80, house.snapshot());
        Check.is("80 were made", Leasehall.FULL, plain(house, 0, 5));
    }

    /** "the node 0 is there at first, for good, and has no parent". */
    private static void node0() {
        Leasehall house = house();
        Check.is("for good, without children", Leasehall.NOT_EMPTY, house.delete(0, 0, ANY));
        Check.is("for good, of its version", Leasehall.NOT_EMPTY, house.delete(0, 0, 0));
        plain(house, 0, 1);
        Check.is("for good, with children", Leasehall.NOT_EMPTY, house.delete(0, 0, ANY));
        Check.is("no parent", Leasehall.NONE, house.read(0, 0, 4));
        Check.is("no name", Leasehall.NONE, house.read(0, 0, 5));
        Check.is("made by no change", 0, house.read(0, 0, 8));
        house.delete(0, 1, ANY);
        Check.is("when its last child has gone it stays", 0, house.read(0, 0, 6));
        Check.is("the value 0", 0, house.valueAt(0, 2));
        house.snapshot();
        house.restore();
        Check.is("restored", 0, house.valueAt(0, 3));
    }

    /** "a name, which none of its parent's others has". */
    private static void names() {
        Leasehall house = house();
        Check.is("one", 1, plain(house, 0, 0));
        Check.is("the same name", Leasehall.EXISTS, plain(house, 0, 0));
        Check.is("the same name, of another kind", Leasehall.EXISTS,
            house.make(1, 0, 0, false, 5, Leasehall.CONTAINER, 0));
        Check.is("the next name", 2, plain(house, 0, 1));
        Check.is("of another parent", 3, plain(house, 1, 0));
        Check.is("of another parent still", 4, plain(house, 3, 0));
        Check.is("of the same other parent", Leasehall.EXISTS, plain(house, 3, 0));
        house.delete(0, 4, ANY);
        Check.is("when it has gone", 5, plain(house, 3, 0));
        house.gather(0);
        house.delete(0, 2, ANY);
        plain(house, 0, 1);
        plain(house, 0, 1);
        Check.is("the second one behind it", -3, house.done(0));
        Check.is("the first one was free", 6, house.answer(0, 1));
        Check.is("the second was not", Leasehall.EXISTS, house.answer(0, 2));
    }

    /** "a value, three versions, of its value, its children and its rights, 0 at first"; "its version is 1 more". */
    private static void versions() {
        Leasehall house = house();
        plain(house, 0, 1);
        versions(house, 1, 0, 0, 0);
        versions(house, 0, 0, 1, 0);
        house.set(0, 1, 0, ANY);
        versions(house, 1, 1, 0, 0);
        house.set(0, 1, 0, ANY);
        versions(house, 1, 2, 0, 0);
        plain(house, 1, 1);
        versions(house, 1, 2, 1, 0);
        house.set(0, 2, 4, ANY);
        versions(house, 1, 2, 1, 0);
        house.rights(0, 1, 15, 15, false);
        versions(house, 1, 2, 1, 1);
        versions(house, 2, 1, 0, 0);
        house.rights(0, 1, 15, 15, true);
        versions(house, 1, 2, 1, 2);
        versions(house, 2, 1, 0, 1);
        house.delete(0, 2, ANY);
        versions(house, 1, 2, 2, 2);
        versions(house, 0, 0, 1, 0);
        house.delete(0, 1, ANY);
        versions(house, 0, 0, 2, 0);
    }

    private static void versions(Leasehall house, int node, int ofValue, int ofChildren, int ofRights) {
        Check.is("the version of the value", ofValue, house.read(0, node, 1));
        Check.is("the version of the children", ofChildren, house.read(0, node, 2));
        Check.is("the version of the rights", ofRights, house.read(0, node, 3));
    }

    /** By an end of a session, its children's versions are 1 more for each that goes. */
    private static void versionsByEnds() {
        Leasehall house = house();
        house.make(0, 0, 1, false, 0, Leasehall.CONTAINER, 0);
        house.make(1, 1, 1, false, 0, Leasehall.OF_SESSION, 0);
        house.make(1, 1, 2, false, 0, Leasehall.OF_SESSION, 0);
        plain(house, 1, 3);
        house.close(1);
        versions(house, 1, 0, 5, 0);
        house.make(2, 1, 1, false, 0, Leasehall.OF_SESSION, 0);
        house.delete(0, 4, ANY);
        house.close(2);
        versions(house, 0, 0, 2, 0);
    }

    /** "OF_SESSION ... has no children; OF_LEASE ... none either". */
    private static void withoutChildren() {
        Leasehall house = house();
        house.lease(50);
        int[] due = {Leasehall.PLAIN, Leasehall.OF_SESSION, Leasehall.OF_LEASE, Leasehall.CONTAINER};
        for (int parent : due) {
            int made = numbered(house, 0, parent);
            for (int child : due) {
                boolean may = parent == Leasehall.PLAIN || parent == Leasehall.CONTAINER;
                Check.is("numbered, kinds " + parent + " and " + child, may, numbered(house, made, child) > 0);
                int other = house.make(0, made, child, false, 0, child, 0);
                Check.is("named, kinds " + parent + " and " + child, may, other > 0);
                if (!may) {
                    Check.is("it has none", Leasehall.NO_CHILDREN, other);
                    Check.is("it has none", Leasehall.NO_CHILDREN, house.want(0, made, false));
                }
            }
        }
    }

    /** "CONTAINER, which goes when its last child has gone". */
    private static void containers() {
        Leasehall house = house();
        numbered(house, 0, Leasehall.CONTAINER);
        Check.is("one that had no child is there", Leasehall.CONTAINER, house.read(0, 1, 7));
        plain(house, 1, 1);
        plain(house, 1, 2);
        Check.is("not its last one", 1, house.delete(0, 2, ANY));
        Check.is("so it is there", 1, house.read(0, 1, 6));
        Check.is("its last one", 2, house.delete(0, 3, ANY));
        Check.is("so it is gone", Leasehall.NO_NODE, house.read(0, 1, 6));
        Check.is("by one change", 5, house.changes());
        numbered(house, 0, Leasehall.CONTAINER);
        Check.is("one without children goes by itself", 1, house.delete(0, 4, ANY));
        plain(house, 0, 9);
        numbered(house, 5, Leasehall.CONTAINER);
        numbered(house, 6, Leasehall.CONTAINER);
        numbered(house, 6, Leasehall.CONTAINER);
        Check.is("a container, as the last but one", 1, house.delete(0, 7, ANY));
        Check.is("a container, as the last", 2, house.delete(0, 8, ANY));
        Check.is("a plain one stays", 0, house.read(0, 5, 6));
    }

    private static void containersAbove() {
        Leasehall house = house();
        for (int i = 0; i < 78; i++) {
            Check.is("each in the one before", i + 1, numbered(house, i, Leasehall.CONTAINER));
        }
        Check.is("the lowest", 79, house.want(1, 78, false));
        Check.is("all go", 79, house.giveUp(1, 78));
        Check.is("but the node 0", 1, house.snapshot());
        Check.is("by one change", 80, house.changes());
        Check.is("of each", 80, house.changedAt(1, 79, 0));
    }

    /** Whichever way its last child goes. */
    private static void containersByAll() {
        for (int way = 0; way < 6; way++) {
            Leasehall house = house();
            house.lease(3);
            house.open(3, 0, 3);
            numbered(house, 0, Leasehall.CONTAINER);
            int kind = way == 3 ? Leasehall.OF_LEASE : Leasehall.OF_SESSION;
            house.make(4, 1, 7, false, 9, kind, 0);
            goesBy(house, way);
            Check.is("it has gone, way " + way, Leasehall.NO_NODE, house.read(0, 1, 0));
            Check.is("by the same change, way " + way, 3, house.changes());
        }
    }

    private static void goesBy(Leasehall house, int way) {
        switch (way) {
            case 0: Check.is("by delete()", 2, house.delete(0, 2, ANY)); break;
            case 1: Check.is("by close()", 2, house.close(4)); break;
            case 2: Check.is("when it lapses", 3, house.pass(3)); break;
            case 3: Check.is("when the lease ends", 3, house.pass(3)); break;
            case 4: Check.is("by giveUp()", 2, house.giveUp(4, 1)); break;
            default: Check.is("by takeFirst()", 9, house.takeFirst(0, 1));
        }
    }

    /** "A NUMBERED name is 1000, and how many children that were NUMBERED its parent had ever ahead of it, together". */
    private static void numberedNames() {
        Leasehall house = house();
        plain(house, 0, 5);
        numbered(house, 0, Leasehall.PLAIN);
        Check.is("the first", 1000, house.read(0, 2, 5));
        numbered(house, 0, Leasehall.PLAIN);
        Check.is("the second", 1001, house.read(0, 3, 5));
        house.delete(0, 3, ANY);
        house.delete(0, 2, ANY);
        house.want(1, 0, true);
        Check.is("the third, when those have gone", 1002, house.read(0, 4, 5));
        numbered(house, 1, Leasehall.PLAIN);
        Check.is("the first of another", 1000, house.read(0, 5, 5));
        house.gather(0);
        numbered(house, 0, Leasehall.PLAIN);
        numbered(house, 0, Leasehall.PLAIN);
        house.set(0, 70, 0, ANY);
        Check.is("refused", -3, house.done(0));
        house.lose(false);
        numbered(house, 0, Leasehall.PLAIN);
        numbered(house, 0, Leasehall.PLAIN);
        Check.is("what was not done does not count", 1003, house.read(0, 6, 5));
        house.gather(0);
        numbered(house, 0, Leasehall.PLAIN);
        house.delete(0, 7, ANY);
        numbered(house, 0, Leasehall.PLAIN);
        Check.is("done", house.changes() + 1, house.done(0));
        Check.is("what went in the same change counts", 1005, house.read(0, 8, 5));
    }

    private static void lastNumberedName() {
        Leasehall house = withNodes(79);
        Check.is("the first", 1000, house.read(0, 1, 5));
        Check.is("the last there can be", 1078, house.read(0, 79, 5));
        Check.is("the last by names", 79, house.child(0, 0, 78));
        Check.is("none behind it", Leasehall.NONE, house.child(0, 0, 79));
        Check.is("so many", true, house.isOpen(0, 0, 79));
        Check.is("80 can not be", false, house.isOpen(0, 0, 80));
    }

    /** "Rights are two sets of people, 0 to 3: who may read, and who may write; all may for the node 0 at first." */
    private static void rights() {
        Leasehall house = house();
        Check.is("all may", 255, house.read(0, 0, 9));
        for (int person = 0; person < 4; person++) {
            Check.is("each may read", 0, house.check(person, 0, ANY));
        }
        for (int person = 0; person < 4; person++) {
            Check.is("each may write", person + 1, house.set(person, 0, 0, ANY));
        }
        for (int sum = 0; sum < 16; sum++) {
            Leasehall another = house();
            plain(another, 0, 1);
            another.rights(0, 1, sum, 15 - sum, false);
            for (int person = 0; person < 4; person++) {
                boolean may = (sum >> person) % 2 == 1;
                Check.is("who may read", may ? 0 : Leasehall.NO_RIGHT, another.read(person, 1, 0));
                Check.is("who may check", may ? 0 : Leasehall.NO_RIGHT, another.check(person, 1, 0));
                Check.is("who may look for children", may ? Leasehall.NONE : Leasehall.NO_RIGHT,
                    another.child(person, 1, 0));
                Check.is("who may watch", may ? 1 : Leasehall.NO_RIGHT, another.watch(person, 1, 0));
                Check.is("who may write", !may, another.want(person, 1, true) > 0);
                Check.is("who may take", may ? Leasehall.NO_RIGHT : 1, another.takeFirst(person, 1));
            }
        }
    }

    /** "A node that is made gets those of its parent then." */
    private static void rightsOfTheParent() {
        Leasehall house = house();
        house.rights(0, 0, 3, 5, false);
        plain(house, 0, 1);
        house.rights(0, 0, 15, 1, false);
        plain(house, 0, 2);
        Check.is("then", 3 + 16 * 5, house.read(0, 1, 9));
        Check.is("not those of now", 15 + 16, house.read(0, 2, 9));
        house.gather(0);
        house.rights(0, 0, 1, 1, false);
        plain(house, 0, 3);
        house.rights(0, 0, 15, 15, false);
        plain(house, 0, 4);
        house.done(0);
        Check.is("each seeing those ahead", 17, house.read(0, 3, 9));
        Check.is("each seeing those ahead", 255, house.read(0, 4, 9));
        Check.is("nobody may", 1, house.rights(0, 2, 0, 1, false));
        Check.is("nobody may", 1, house.rights(0, 2, 0, 0, false));
        Check.is("so nobody sets them any more", Leasehall.NO_RIGHT, house.rights(0, 2, 15, 15, false));
        Check.is("but from above", 5, house.rights(0, 0, 15, 15, true));
        Check.is("by which all may", 1, house.rights(3, 2, 15, 15, false));
    }

    /** "Changes are numbered from 1. Each is of one call ..., or one end of a session or a lease, by which nodes go." */
    private static void changes() {
        Leasehall house = house();
        Check.is("none", 0, house.changes());
        house.lease(1);
        house.gather(0);
        house.make(0, 0, 1, false, 0, Leasehall.OF_LEASE, 0);
        house.make(0, 0, 2, false, 0, Leasehall.OF_LEASE, 0);
        Check.is("the first, of two acts", 1, house.done(0));
        house.lease(1);
        house.pass(1);
        Check.is("one for all nodes of one lease, none for one without", 2, house.changes());
        house.make(1, 0, 3, false, 0, Leasehall.OF_SESSION, 0);
        house.make(1, 0, 4, false, 0, Leasehall.OF_SESSION, 0);
        house.close(1);
        Check.is("one for all nodes of a session", 5, house.changes());
        house.close(2);
        Check.is("none for one without", 5, house.changes());
    }

    /** "all below it", when each is below the one before, down to the 80th. */
    private static void deepest() {
        Leasehall house = house();
        house.watch(0, 0, Leasehall.BRANCH);
        for (int i = 0; i < 79; i++) {
            Check.is("below the one before", i + 1, plain(house, i, 7));
            Check.is("the BRANCH of the node 0", 10 * (i + 1) + Leasehall.MADE, house.hear(0));
        }
        for (int node = 0; node < 80; node++) {
            Check.is("how many are below", 79 - node, house.quota(node, 80));
            Check.is("how many children", node < 79 ? 1 : 0, house.read(0, node, 6));
            Check.is("which child", node < 79 ? node + 1 : Leasehall.NONE, house.child(0, node, 0));
            Check.is("NOT_EMPTY but the last", node < 79 ? Leasehall.NOT_EMPTY : 1, house.delete(0, node, 0));
        }
        for (int node : new int[] {0, 1, 40, 77, 78}) {
            Check.is("how many have these", 79 - node, house.rights(0, node, 15, 15, true));
            Check.is("just it", 1, house.rights(0, node, 15, 15, false));
        }
        Check.is("the last one's version of rights", 6, house.read(0, 78, 3));
    }

    /** "or of it and all below it": 80 of them, beside one another. */
    private static void rightsOfAll() {
        Leasehall house = withNodes(79);
        Check.is("all", 80, house.rights(0, 0, 15, 1, true));
        for (int node = 0; node < 80; node++) {
            Check.is("each", 15 + 16, house.read(1, node, 9));
            Check.is("each once", 1, house.read(1, node, 3));
        }
        Check.is("the last", 1, house.rights(0, 79, 0, 15, true));
        Check.is("which is no other", 31, house.read(1, 78, 9));
    }

    public static void main(String[] args) {
        atMost80();
        atMost80Gathered();
        node0();
        names();
        versions();
        versionsByEnds();
        withoutChildren();
        containers();
        containersAbove();
        containersByAll();
        numberedNames();
        lastNumberedName();
        rights();
        rightsOfTheParent();
        rightsOfAll();
        deepest();
        changes();
        Check.end("edges of the tree");
    }
}
