/** The sentences of the terms under WATCHES that name an edge, each at that edge. */
final class EdgeWatchTest {
    private static final int ANY = Leasehall.ANY;
    private static final int MADE = Leasehall.MADE, SET = Leasehall.SET, GONE = Leasehall.GONE;

    private EdgeWatchTest() {
    }

    /** The sessions 0 (server 0) and 1 (server 1), which both have the nodes 1, 2 below it and 3 below that. */
    private static Leasehall house() {
        Leasehall house = new Leasehall();
        house.open(0, 0, 50);
        house.open(0, 1, 50);
        for (int i = 0; i < 3; i++) {
            plain(house, i, 1);
        }
        house.sync(1);
        return house;
    }

    private static int plain(Leasehall house, int parent, int name) {
        return house.make(0, parent, name, false, 0, Leasehall.PLAIN, 0);
    }

    /** What the house does to the nodes around the node 2, and what watches of it have to be told. */
    private static int happens(Leasehall house, int way) {
        switch (way) {
            case 0: return house.set(0, 2, 0, ANY) * 0 + 20 + SET;
            case 1: return plain(house, 2, 5) * 10 + MADE;
            case 2: return house.delete(0, 3, ANY) * 0 + 30 + GONE;
            case 3: return house.set(0, 3, 1, ANY) * 0 + 30 + SET;
            case 4: return plain(house, 3, 5) * 10 + MADE;
            case 5: return house.rights(0, 2, 15, 15, true) * 0 + Leasehall.NONE;
            case 6: return house.set(0, 1, 1, ANY) * 0 + Leasehall.NONE;
            case 7: return plain(house, 1, 5) * 0 + Leasehall.NONE;
            case 8: return plain(house, 0, 5) * 0 + Leasehall.NONE;
            case 9: return house.check(0, 2, ANY) + Leasehall.NONE;
            default: return house.set(0, 2, 1, 7) * 0 + Leasehall.NONE;
        }
    }

    /** "VALUE, told when that is set, or the node goes; CHILDREN, told when one is made or goes ...; or of the BRANCH". */
    private static void kinds() {
        boolean[][] tells = {
            {true, false, false, false, false},
            {false, true, true, false, false},
            {true, true, true, true, true},
        };
        for (int kind = Leasehall.VALUE; kind <= Leasehall.BRANCH; kind++) {
            for (int way = 0; way <= 10; way++) {
                Leasehall house = house();
                house.watch(0, 2, kind);
                int told = happens(house, way);
                boolean is = way < 5 && tells[kind][way];
                Check.is("kind " + kind + ", way " + way, is ? told : Leasehall.NONE, house.hear(0));
                Check.is("once, kind " + kind + ", way " + way, Leasehall.NONE, house.hear(0));
                boolean kept = !is || kind == Leasehall.BRANCH;
                Check.is("kept, kind " + kind + ", way " + way, kept ? 2 : 1, house.watch(0, 0, kind));
            }
        }
    }

    /** "or the node itself goes"; "which is kept, also when the node has gone". */
    private static void nodeGoes() {
        for (int kind = Leasehall.VALUE; kind <= Leasehall.BRANCH; kind++) {
            Leasehall house = house();
            house.delete(0, 3, ANY);
            house.watch(0, 2, kind);
            house.delete(0, 2, ANY);
            Check.hears("it goes, kind " + kind, house, 0, 20 + GONE);
            Check.is("a BRANCH is kept", kind == Leasehall.BRANCH ? 2 : 1, house.watch(0, 0, Leasehall.VALUE));
            plain(house, 1, 1);
            Check.hears("another of its name is another, kind " + kind, house, 0);
        }
    }

    /** "VALUE and CHILDREN are told once, then they are gone": also by one change with several steps. */
    private static void toldOnce() {
        Leasehall house = house();
        house.watch(0, 2, Leasehall.VALUE);
        house.watch(0, 2, Leasehall.CHILDREN);
        house.watch(0, 2, Leasehall.BRANCH);
        house.gather(0);
        house.set(0, 2, 1, ANY);
        house.set(0, 2, 2, ANY);
        house.delete(0, 3, ANY);
        plain(house, 2, 1);
        house.delete(0, 4, ANY);
        house.delete(0, 2, ANY);
        house.done(0);
        Check.hears("each step by itself, in order", house, 0, 20 + SET, 20 + SET, 20 + SET, 30 + GONE, 30 + GONE,
            40 + MADE, 40 + GONE, 20 + GONE);
        Check.is("the BRANCH is left", 2, house.watch(0, 0, Leasehall.VALUE));
    }

    /** "watches in the order in which they were set", with gaps that earlier ones left. */
    private static void inOrder() {
        Leasehall house = house();
        house.watch(0, 1, Leasehall.VALUE);
        house.watch(0, 0, Leasehall.BRANCH);
        house.watch(0, 2, Leasehall.VALUE);
        house.watch(0, 0, Leasehall.CHILDREN);
        house.watch(0, 3, Leasehall.BRANCH);
        house.set(0, 1, 1, ANY);
        Check.hears("the first and the second", house, 0, 10 + SET, 10 + SET);
        Check.is("four are left", 5, house.watch(0, 1, Leasehall.VALUE));
        house.gather(0);
        house.set(0, 3, 1, ANY);
        house.set(0, 2, 1, ANY);
        house.set(0, 1, 1, ANY);
        plain(house, 0, 2);
        house.done(0);
        Check.hears("all", house, 0, 30 + SET, 30 + SET, 20 + SET, 20 + SET, 10 + SET, 10 + SET, 40 + MADE, 40 + MADE);
        Check.is("two are left", 3, house.watch(0, 0, Leasehall.VALUE));
    }

    /** "when a session or a lease ends, nodes go in the order of their numbers; a container ... right behind it". */
    private static void endsInOrder() {
        for (int way = 0; way < 3; way++) {
            Leasehall house = house();
            house.open(0, 0, 4);
            house.lease(4);
            int kind = way == 2 ? Leasehall.OF_LEASE : Leasehall.OF_SESSION;
            house.make(0, 3, 1, false, 0, Leasehall.CONTAINER, 0);
            house.make(0, 4, 1, false, 0, Leasehall.CONTAINER, 0);
            house.make(2, 1, 9, false, 0, kind, 0);
            house.make(2, 5, 9, false, 0, kind, 0);
            house.make(2, 1, 5, false, 0, kind, 0);
            house.make(2, 0, 7, false, 0, kind, 0);
            house.watch(0, 0, Leasehall.BRANCH);
            house.watch(0, 1, Leasehall.CHILDREN);
            int change = house.changes() + 1;
            if (way == 0) {
                Check.is("how many go", 6, house.close(2));
            } else {
                house.pass(4);
            }
            Check.hears("in the order of numbers, way " + way, house, 0, 62, 62, 72, 52, 42, 82, 92);
            Check.is("one change, way " + way, change, house.changes());
        }
    }

    /** "They are told when the server of the session gets the change". */
    private static void whenItsServerGets() {
        Leasehall house = house();
        house.watch(1, 0, Leasehall.BRANCH);
        house.set(0, 1, 1, ANY);
        house.set(0, 2, 1, ANY);
        house.set(0, 3, 1, ANY);
        Check.hears("not yet", house, 1);
        house.follow(1, 1);
        Check.hears("the first", house, 1, 11);
        house.follow(2, 20);
        Check.hears("another server does not matter", house, 1);
        house.check(1, 0, ANY);
        Check.hears("the others, by an act", house, 1, 21, 31);
        house.set(0, 1, 1, ANY);
        house.watch(1, 1, Leasehall.VALUE);
        house.sync(1);
        Check.hears("a watch that was set ahead of getting it", house, 1, 11, 11);
        house.set(0, 1, 1, ANY);
        house.sync(1);
        house.watch(1, 1, Leasehall.VALUE);
        Check.hears("a watch that was set behind it", house, 1, 11);
        house.set(1, 1, 1, ANY);
        Check.hears("what it does itself", house, 1, 11, 11);
    }

    /** "and, if the session is moved, for the changes that the other server has more": none, one, several. */
    private static void whenItIsMoved() {
        for (int own = 0; own <= 3; own++) {
            for (int other = own; other <= 3; other++) {
                Leasehall house = house();
                house.follow(2, 20);
                house.watch(1, 1, Leasehall.BRANCH);
                for (int node = 1; node <= 3; node++) {
                    house.set(0, node, 1, ANY);
                }
                if (own > 0) {
                    house.follow(1, own);
                }
                if (other > 0) {
                    house.follow(2, other);
                }
                Check.is("moved", true, house.move(1, 2));
                house.follow(1, 20);
                for (int node = 1; node <= other; node++) {
                    Check.is("told of all up to there", 10 * node + SET, house.hear(1));
                }
                Check.is("and no more", Leasehall.NONE, house.hear(1));
                house.follow(2, 20);
                for (int node = other + 1; node <= 3; node++) {
                    Check.is("told of the rest there", 10 * node + SET, house.hear(1));
                }
                Check.is("each once", Leasehall.NONE, house.hear(1));
            }
        }
    }

    private static void whenItIsNotMoved() {
        Leasehall house = house();
        house.watch(1, 1, Leasehall.VALUE);
        house.set(0, 1, 1, ANY);
        house.follow(1, 1);
        house.set(0, 1, 1, ANY);
        Check.is("not moved", false, house.move(1, 2));
        Check.hears("what its own server got", house, 1, 11);
        house.follow(2, 20);
        Check.is("moved", true, house.move(1, 2));
        Check.hears("told once", house, 1);
    }

    /** "Throws IllegalStateException if it ... has 8 watches". */
    private static void atMost8() {
        for (int kind = Leasehall.VALUE; kind <= Leasehall.BRANCH; kind++) {
            Leasehall house = house();
            for (int i = 1; i <= 8; i++) {
                Check.is("how many it has then", i, house.watch(0, 2, kind));
            }
            int which = kind;
            Check.fails("the ninth", Check.STATE, () -> house.watch(0, 2, which));
            Check.fails("the ninth, of another node", Check.STATE, () -> house.watch(0, 0, which));
            Check.fails("the ninth, of no node", Check.STATE, () -> house.watch(0, 9, which));
            Check.is("of another session", 1, house.watch(1, 2, kind));
            int told = happens(house, kind == Leasehall.CHILDREN ? 1 : 0);
            for (int i = 0; i < 8; i++) {
                Check.is("each is told", told, house.hear(0));
            }
            Check.is("not more", Leasehall.NONE, house.hear(0));
            if (kind == Leasehall.BRANCH) {
                Check.fails("all are kept", Check.STATE, () -> house.watch(0, 0, which));
            } else {
                Check.is("all are gone", 1, house.watch(0, 0, kind));
            }
        }
    }

    /** Seven and one refused: what is refused is no watch. */
    private static void refusedWatch() {
        Leasehall house = house();
        for (int i = 1; i <= 7; i++) {
            house.watch(0, 0, Leasehall.BRANCH);
        }
        Check.is("no node", Leasehall.NO_NODE, house.watch(0, 4, 0));
        house.rights(0, 3, 0, 15, false);
        Check.is("no right", Leasehall.NO_RIGHT, house.watch(0, 3, 0));
        Check.is("the eighth", 8, house.watch(0, 2, 0));
        Check.fails("the ninth, without right", Check.STATE, () -> house.watch(0, 3, 0));
    }

    /** "What is told waits in a row, of which the oldest is heard first"; "NONE if there is nothing". */
    private static void row() {
        Leasehall house = house();
        Check.is("empty", Leasehall.NONE, house.hear(0));
        house.watch(0, 0, Leasehall.BRANCH);
        Check.is("empty still", Leasehall.NONE, house.hear(0));
        house.set(0, 0, 1, ANY);
        Check.is("one, of the node 0", SET, house.hear(0));
        Check.is("empty again", Leasehall.NONE, house.hear(0));
        for (int i = 0; i < 33; i++) {
            house.set(0, i % 3 + 1, 1, ANY);
        }
        for (int i = 0; i < 33; i++) {
            Check.is("the oldest", 10 * (i % 3 + 1) + SET, house.hear(0));
        }
        Check.is("empty at last", Leasehall.NONE, house.hear(0));
        Check.is("another's row is its own", Leasehall.NONE, house.hear(1));
    }

    private static void lastNode() {
        Leasehall house = house();
        house.watch(0, 0, Leasehall.BRANCH);
        for (int i = 4; i < 80; i++) {
            plain(house, 0, i);
        }
        house.delete(0, 79, ANY);
        for (int i = 4; i < 80; i++) {
            Check.is("made", 10 * i + MADE, house.hear(0));
        }
        Check.is("the node 79 has gone", 792, house.hear(0));
    }

    /** "all watches are gone, without being told". */
    private static void restored() {
        Leasehall house = house();
        house.snapshot();
        house.watch(0, 1, Leasehall.BRANCH);
        house.set(0, 1, 1, ANY);
        house.restore();
        Check.fails("its session has ended", Check.STATE, () -> house.hear(0));
        int me = house.open(0, 1, 50);
        Check.is("none is there", Leasehall.NONE, house.hear(me));
        Check.is("the first", 1, house.watch(me, 1, Leasehall.BRANCH));
        house.set(me, 1, 1, ANY);
        Check.hears("of what comes behind", house, me, 11);
    }

    public static void main(String[] args) {
        kinds();
        nodeGoes();
        toldOnce();
        inOrder();
        endsInOrder();
        whenItsServerGets();
        whenItIsMoved();
        whenItIsNotMoved();
        atMost8();
        refusedWatch();
        row();
        lastNode();
        restored();
        Check.end("edges of watches");
    }
}
