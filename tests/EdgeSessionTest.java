/** The sentences of the terms under SERVERS, SESSIONS that name an edge, each at that edge. */
final class EdgeSessionTest {
    private static final int ANY = Leasehall.ANY;

    private EdgeSessionTest() {
    }

    /** The session 0, at the server 0, and so many changes. */
    private static Leasehall changed(int changes) {
        Leasehall house = new Leasehall();
        house.open(0, 0, 50);
        for (int i = 1; i <= changes; i++) {
            house.set(0, 0, i, ANY);
        }
        return house;
    }

    /** A session that is there still has its node still; to look so is nothing that it does. */
    private static boolean isThere(Leasehall house, int node) {
        return house.valueAt(node, house.changes()) != Leasehall.NONE;
    }

    /** A session of that patience with a node, whose number is answered. */
    private static int openWithNode(Leasehall house, int patience) {
        int session = house.open(0, 0, patience);
        return house.make(session, 0, 0, true, 0, Leasehall.OF_SESSION, 0);
    }

    /** "It lapses, when so much time has gone by since it did something last ... the call that opens it included." */
    private static void patience() {
        for (int patience : new int[] {1, 2, 49, 50}) {
            Leasehall house = new Leasehall();
            int node = openWithNode(house, patience);
            if (patience > 1) {
                house.pass(patience - 1);
                Check.is("one less than " + patience, true, isThere(house, node));
            }
            house.pass(1);
            Check.is("so much as " + patience, false, isThere(house, node));
            Check.is("by a change", 2, house.changes());
        }
        Leasehall house = new Leasehall();
        int node = openWithNode(house, 50);
        house.pass(50);
        Check.is("50 at once", false, isThere(house, node));
        node = openWithNode(house, 50);
        house.pass(49);
        Check.is("at another time, 49", true, isThere(house, node));
        house.pass(1);
        Check.is("at another time, 50", false, isThere(house, node));
    }

    private static void patienceByOpening() {
        Leasehall house = new Leasehall();
        house.pass(9);
        house.open(0, 0, 3);
        house.pass(2);
        Check.is("opening is a call", 0, house.ping(0));
        house.open(0, 0, 3);
        house.pass(3);
        Check.fails("so much after it", Check.STATE, () -> house.ping(1));
        Check.fails("or after another", Check.STATE, () -> house.ping(0));
    }

    /** "by whichever call that names it and throws nothing": each call that does, at the last moment. */
    private static void patienceByEach() {
        for (SessionCall call : SessionCall.values()) {
            boolean ends = call == SessionCall.CLOSE || call == SessionCall.GATHER;
            if (!ends && call != SessionCall.DONE && call != SessionCall.ANSWER) {
                Leasehall house = changed(1);
                house.open(0, 0, 4);
                int node = house.make(1, 0, 99, false, 0, Leasehall.OF_SESSION, 0);
                house.make(0, 0, 0, false, 0, Leasehall.PLAIN, 0);
                house.pass(3);
                call.ask(house, 1);
                house.pass(3);
                Check.is("one less behind " + call, true, isThere(house, node) || call == SessionCall.GIVE_UP);
                Check.is("there behind " + call, true, house.ping(1) >= 0);
                house.pass(4);
                Check.fails("so much behind that", Check.STATE, () -> house.ping(1));
            }
        }
        gatheringCounts();
    }

    private static void gatheringCounts() {
        Leasehall house = changed(0);
        openWithNode(house, 4);
        house.pass(3);
        house.gather(1);
        house.pass(3);
        house.set(1, 9, 0, ANY);
        house.pass(3);
        Check.is("done(), though refused", -1, house.done(1));
        house.pass(3);
        Check.is("there behind all", true, isThere(house, 1));
        house.answer(1, 0);
        house.believers(0);
        house.valueAt(1, 1);
        house.lose(false);
        house.quota(1, 5);
        house.pass(1);
        Check.is("answer() is nothing that it does, nor what does not name it", false, isThere(house, 1));
    }

    /** A call that throws does not count, whatever it throws. */
    private static void thrownDoesNotCount() {
        Leasehall house = changed(0);
        int node = openWithNode(house, 2);
        house.lease(1);
        house.pass(1);
        Check.fails("a bad server", Check.RANGE, () -> house.move(1, 3));
        Check.fails("a bad name", Check.ARGUMENT, () -> house.make(1, 0, 100, false, 0, 0, 0));
        Check.fails("a bad lease", Check.RANGE, () -> house.make(1, 0, 0, false, 0, 2, 1));
        Check.fails("an ended lease", Check.STATE, () -> house.make(1, 0, 0, false, 0, 2, 0));
        Check.fails("a bad value", Check.ARGUMENT, () -> house.set(1, 0, 1001, ANY));
        Check.fails("bad rights", Check.ARGUMENT, () -> house.rights(1, 0, 0, 16, false));
        Check.fails("a bad what", Check.ARGUMENT, () -> house.read(1, 0, -1));
        Check.fails("a bad place", Check.RANGE, () -> house.child(1, 0, -1));
        Check.fails("a bad place", Check.RANGE, () -> house.answer(1, -1));
        Check.fails("a bad kind", Check.ARGUMENT, () -> house.watch(1, 0, 3));
        Check.fails("a bad number", Check.ARGUMENT, () -> house.isOpen(1, 0, 0));
        Check.fails("no gathering", Check.STATE, () -> house.done(1));
        house.pass(1);
        Check.is("it lapsed all the same", false, isThere(house, node));
    }

    private static void thrownOfStateDoesNotCount() {
        for (int way = 0; way < 5; way++) {
            Leasehall house = changed(0);
            int node = openWithNode(house, 2);
            for (int i = 0; i < 8; i++) {
                house.watch(1, 0, Leasehall.BRANCH);
            }
            house.gather(1);
            for (int i = 0; i < 6; i++) {
                house.check(1, 0, ANY);
            }
            house.pass(1);
            switch (way) {
                case 0: Check.fails("the ninth watch", Check.STATE, () -> house.watch(1, 0, 0)); break;
                case 1: Check.fails("gathers already", Check.STATE, () -> house.gather(1)); break;
                case 2: Check.fails("wants, but gathers", Check.STATE, () -> house.want(1, 0, true)); break;
                case 3: Check.fails("takes, but gathers", Check.STATE, () -> house.takeFirst(1, 0)); break;
                default: Check.fails("the seventh act", Check.STATE, () -> house.check(1, 0, ANY));
            }
            house.pass(1);
            Check.is("it lapsed all the same, way " + way, false, isThere(house, node));
        }
    }

    /** "Time is looked at unit by unit": many units at once are as many, one by one. */
    private static void unitByUnit() {
        Leasehall once = ending();
        Leasehall byUnits = ending();
        Check.is("the time", 50, once.pass(50));
        for (int i = 1; i <= 50; i++) {
            Check.is("the time", i, byUnits.pass(1));
        }
        Check.is("as many changes", once.changes(), byUnits.changes());
        for (int node = 0; node < 20; node++) {
            for (int place = 0; place < 3; place++) {
                Check.is("the same changes", once.changedAt(node, 0, place), byUnits.changedAt(node, 0, place));
            }
        }
    }

    private static Leasehall ending() {
        Leasehall house = new Leasehall();
        int[] patiences = {50, 7, 3, 7, 1, 49, 50, 2};
        for (int i = 0; i < patiences.length; i++) {
            openWithNode(house, patiences[i]);
            house.lease(patiences[patiences.length - 1 - i]);
            house.make(i, 0, i, false, 0, Leasehall.OF_LEASE, i);
        }
        return house;
    }

    /** "first sessions lapse, by rising numbers, each by a change of its own, if it has nodes, then leases likewise". */
    private static void orderOfEnds() {
        Leasehall house = new Leasehall();
        for (int i = 0; i < 10; i++) {
            Check.is("opened", i, house.open(0, 0, 50));
            Check.is("made", i, house.lease(50));
        }
        for (int i = 9; i >= 0; i--) {
            if (i != 4) {
                house.make(i, 0, i, false, 0, Leasehall.OF_LEASE, i);
                house.make(i, 0, 10 + i, false, 0, Leasehall.OF_SESSION, 0);
            }
        }
        house.pass(49);
        Check.is("not yet", 18, house.changes());
        house.pass(1);
        Check.is("one for each but the two without nodes", 36, house.changes());
        int change = 18;
        for (int kind = 1; kind >= 0; kind--) {
            for (int i = 0; i < 10; i++) {
                if (i != 4) {
                    change++;
                    int node = 2 * (i < 4 ? 8 - i : 9 - i) + 1 + kind;
                    Check.is("in turn, " + kind + " " + i, change, house.changedAt(node, 18, 0));
                }
            }
        }
    }

    /** "Makes a lease, which ends when it was not renewed for so long." */
    private static void leases() {
        for (int time : new int[] {1, 2, 49, 50}) {
            Leasehall house = changed(0);
            house.lease(time);
            int node = house.make(0, 0, 0, false, 0, Leasehall.OF_LEASE, 0);
            if (time > 1) {
                house.pass(time - 1);
                Check.is("one less than " + time, true, isThere(house, node));
                Check.is("until when", 2 * time - 1, house.renew(0));
                house.ping(0);
                house.pass(time - 1);
                Check.is("one less, renewed", true, isThere(house, node));
            }
            house.pass(1);
            Check.is("so much as " + time, false, isThere(house, node));
            Check.fails("so it has ended", Check.STATE, () -> house.renew(0));
            Check.is("the next one is another", 1, house.lease(time));
        }
    }

    private static void leaseWithoutNodes() {
        Leasehall house = changed(0);
        house.lease(2);
        house.pass(1);
        Check.is("renewed at once it is no longer", 3, house.renew(0));
        Check.is("nor twice", 3, house.renew(0));
        house.pass(2);
        Check.fails("it has ended", Check.STATE, () -> house.renew(0));
        Check.is("without a change", 0, house.changes());
    }

    /** "most: 1 to 20: at most so many" of those that the server lacks: none, fewer, as many, more. */
    private static void follows() {
        for (int lacks : new int[] {0, 1, 19, 20, 21, 40, 41}) {
            for (int most : new int[] {1, 2, 19, 20}) {
                Leasehall house = changed(lacks);
                int due = Math.min(lacks, most);
                Check.is("of " + lacks + " at most " + most, due, house.follow(1, most));
                int me = house.open(0, 1, 50);
                Check.is("that server has them", due, house.ping(me));
                Check.is("as it was then", due, house.read(me, 0, 0));
                Check.is("the rest", lacks - due, house.sync(me));
                Check.is("then none", 0, house.follow(1, most));
                Check.is("the other has none", Math.min(lacks, 20), house.follow(2, 20));
                Check.is("the server 0 has all", 0, house.follow(0, most));
            }
        }
    }

    /** "the others have them up to one, and get them in order": a change is got whole. */
    private static void followsWhole() {
        Leasehall house = changed(0);
        house.gather(0);
        for (int i = 0; i < 6; i++) {
            house.make(0, 0, i, false, i, Leasehall.PLAIN, 0);
        }
        house.done(0);
        house.delete(0, 1, ANY);
        int me = house.open(0, 2, 50);
        Check.is("none yet", 0, house.read(me, 0, 6));
        Check.is("one", 1, house.follow(2, 1));
        Check.is("is all six", 6, house.read(me, 0, 6));
        Check.is("another", 1, house.follow(2, 1));
        Check.is("is the one that went", 5, house.read(me, 0, 6));
    }

    /** "if it is done, by a check too, but not by close(), the server of the session gets all changes at once". */
    private static void allAtOnce() {
        for (int way = 0; way < 12; way++) {
            for (int behind : new int[] {0, 1, 21, 45}) {
                Leasehall house = changed(behind);
                house.open(0, 2, 50);
                int node = house.make(0, 0, 7, false, 3, Leasehall.PLAIN, 0);
                boolean gets = acts(house, way, node);
                int me = house.open(0, 2, 50);
                Check.is("behind by " + behind + ", way " + way, gets ? house.changes() : 0, house.ping(me));
            }
        }
    }

    private static boolean acts(Leasehall house, int way, int node) {
        switch (way) {
            case 0: return house.make(1, 0, 1, false, 0, Leasehall.PLAIN, 0) > 0;
            case 1: return house.set(1, node, 0, 0) > 0;
            case 2: return house.delete(1, node, 0) > 0;
            case 3: return house.rights(1, 0, 15, 15, true) > 0;
            case 4: return house.check(1, node, 0) >= 0;
            case 5: return house.want(1, node, false) > 0;
            case 6: return house.takeFirst(1, 0) > 0;
            case 7: return house.set(1, node, 0, 7) >= 0;
            case 8: return house.close(1) < 0;
            case 9:
                house.want(1, node, false);
                house.set(0, 0, 5, ANY);
                return house.giveUp(1, node) > 0;
            case 10:
                house.gather(1);
                return house.done(1) >= 0;
            default:
                house.gather(1);
                house.check(1, node, 7);
                return house.done(1) >= 0;
        }
    }

    /** "The server 0 has all changes", whoever makes them. */
    private static void server0() {
        Leasehall house = changed(0);
        house.open(0, 1, 50);
        house.open(0, 2, 1);
        house.make(1, 0, 1, false, 0, Leasehall.PLAIN, 0);
        Check.is("by a session elsewhere", 1, house.ping(0));
        house.make(2, 0, 2, false, 0, Leasehall.OF_SESSION, 0);
        Check.is("by another", 2, house.ping(0));
        house.pass(1);
        Check.is("by an end", 3, house.ping(0));
        Check.is("so there is none to get", 0, house.follow(0, 20));
        Check.is("nor for its session", 0, house.sync(0));
    }

    /** "A session can be moved to another server that has at least as many changes as its own." */
    private static void moves() {
        for (int own = 0; own <= 4; own++) {
            for (int other = 0; other <= 4; other++) {
                Leasehall house = changed(4);
                int me = house.open(0, 1, 50);
                if (own > 0) {
                    house.follow(1, own);
                }
                if (other > 0) {
                    house.follow(2, other);
                }
                Check.is("from " + own + " to " + other, other >= own, house.move(me, 2));
                Check.is("where it is then", Math.max(own, other), house.ping(me));
                Check.is("what it reads then", Math.max(own, other), house.read(me, 0, 0));
                Check.is("to where it is", true, house.move(me, other >= own ? 2 : 1));
                Check.is("to the server 0", true, house.move(me, 0));
                Check.is("back", own == 4, house.move(me, 1));
            }
        }
    }

    /** "IndexOutOfBoundsException ... IllegalStateException, among others, if a session has ended" at the very unit. */
    private static void closes() {
        Leasehall house = changed(0);
        openWithNode(house, 1);
        Check.is("closed in time", 1, house.close(1));
        Check.fails("closed twice", Check.STATE, () -> house.close(1));
        openWithNode(house, 1);
        house.pass(1);
        Check.fails("too late", Check.STATE, () -> house.close(2));
        Check.is("its node went once", 4, house.changes());
        house.gather(0);
        house.make(0, 0, 1, false, 0, Leasehall.PLAIN, 0);
        Check.is("what is gathered is not done by that", 0, house.close(0));
        Check.is("no change", 4, house.changes());
    }

    public static void main(String[] args) {
        patience();
        patienceByOpening();
        patienceByEach();
        thrownDoesNotCount();
        thrownOfStateDoesNotCount();
        unitByUnit();
        orderOfEnds();
        leases();
        leaseWithoutNodes();
        follows();
        followsWhole();
        allAtOnce();
        server0();
        moves();
        closes();
        Check.end("edges of servers, sessions, time");
    }
}
