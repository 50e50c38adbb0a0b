/** Promises 1 to 10: a new object, sessions, servers, time, leases. */
final class SessionTest {
    private SessionTest() {
    }

    private static Leasehall withSession() {
        Leasehall house = new Leasehall();
        house.open(0, 0, 50);
        return house;
    }

    private static void plain(Leasehall house, int session, int parent, int name, int due) {
        Check.is("a node is made", due, house.make(session, parent, name, false, 0, Leasehall.PLAIN, 0));
    }

    private static void promise1() {
        Leasehall house = new Leasehall();
        Check.is("1: no changes", 0, house.changes());
        Check.is("1: nothing stored", 0, house.stored());
        Check.is("1: the node 0's value", 0, house.valueAt(0, 0));
        Check.is("1: no node 1", Leasehall.NONE, house.valueAt(1, 0));
        Check.is("1: the nodes", 1, house.snapshot());
        Check.is("1: the time", 1, house.pass(1));
        Check.is("1: nobody believes", 0, house.believers(0));
        Check.fails("1: no sessions", Check.RANGE, () -> house.ping(0));
        Check.fails("1: no leases", Check.RANGE, () -> house.renew(0));
        int me = house.open(3, 2, 50);
        int[] due = {0, 0, 0, 0, Leasehall.NONE, Leasehall.NONE, 0, Leasehall.PLAIN, 0, 255};
        for (int what = 0; what < due.length; what++) {
            Check.is("1: the node 0, " + what, due[what], house.read(me, 0, what));
        }
    }

    private static void promise2() {
        Leasehall house = new Leasehall();
        Check.fails("2: person -1", Check.RANGE, () -> house.open(-1, 0, 5));
        Check.fails("2: person 4", Check.RANGE, () -> house.open(4, 0, 0));
        Check.fails("2: server -1", Check.RANGE, () -> house.open(0, -1, 5));
        Check.fails("2: server 3", Check.RANGE, () -> house.open(0, 3, 51));
        Check.fails("2: patience 0", Check.ARGUMENT, () -> house.open(0, 0, 0));
        Check.fails("2: patience 51", Check.ARGUMENT, () -> house.open(0, 0, 51));
        for (int i = 0; i < 10; i++) {
            Check.is("2: its number", i, house.open(i % 4, i % 3, i == 0 ? 1 : 50));
        }
        Check.fails("2: the eleventh", Check.STATE, () -> house.open(0, 0, 1));
        Check.fails("2: the eleventh, patience 0", Check.ARGUMENT, () -> house.open(0, 0, 0));
        Check.fails("2: the eleventh, server 3", Check.RANGE, () -> house.open(0, 3, 0));
        house.close(9);
        Check.fails("2: also when one has ended", Check.STATE, () -> house.open(0, 0, 1));
    }

    private static void promise2Lapsing() {
        Leasehall house = new Leasehall();
        house.pass(7);
        house.open(0, 0, 1);
        house.open(0, 0, 50);
        Check.is("2: opening counts as a call", 0, house.ping(0));
        house.open(0, 0, 50);
        house.pass(1);
        Check.fails("2: a patience of 1 is over", Check.STATE, () -> house.ping(0));
        house.pass(48);
        Check.is("2: a patience of 50 is not over at 49", 0, house.ping(1));
        house.pass(1);
        Check.fails("2: but at 50", Check.STATE, () -> house.ping(2));
    }

    private static void promise3() {
        Leasehall house = withSession();
        house.open(1, 1, 50);
        plain(house, 0, 0, 1, 1);
        house.make(0, 1, 0, true, 1, Leasehall.OF_SESSION, 0);
        house.make(0, 1, 0, true, 1, Leasehall.CONTAINER, 0);
        house.make(0, 3, 0, true, 1, Leasehall.CONTAINER, 0);
        house.make(0, 4, 5, false, 1, Leasehall.OF_SESSION, 0);
        house.make(1, 1, 9, false, 1, Leasehall.OF_SESSION, 0);
        Check.fails("3: no session 2", Check.RANGE, () -> house.close(2));
        Check.fails("3: no session -1", Check.RANGE, () -> house.close(-1));
        house.has(0, 1);
        Check.is("3: its nodes and the containers", 4, house.close(0));
        Check.is("3: one change", 7, house.changes());
        Check.is("3: its server alone gets none", 6, house.ping(1));
        house.sync(1);
        Check.is("3: the other's stays", 6, house.child(1, 1, 0));
        Check.is("3: and is the only one", Leasehall.NONE, house.child(1, 1, 1));
        Check.fails("3: it has ended", Check.STATE, () -> house.close(0));
        house.open(0, 2, 50);
        Check.is("3: none goes", 0, house.close(2));
        Check.is("3: then there is no change", 7, house.changes());
    }

    private static void promise3AtAnother() {
        Leasehall house = withSession();
        house.open(0, 1, 50);
        house.open(0, 1, 50);
        house.make(1, 0, 1, false, 0, Leasehall.OF_SESSION, 0);
        house.set(0, 0, 5, -1);
        house.close(1);
        Check.is("3: closing lets its server get nothing", 1, house.ping(2));
    }

    private static void promise4() {
        Leasehall house = withSession();
        house.open(0, 1, 10);
        plain(house, 0, 0, 1, 1);
        plain(house, 0, 0, 2, 2);
        Check.is("4: of the server 0", 2, house.ping(0));
        Check.is("4: of a server that is behind", 0, house.ping(1));
        house.follow(1, 1);
        Check.is("4: of one less behind", 1, house.ping(1));
        house.open(0, 2, 50);
        house.set(2, 0, 1, -1);
        Check.is("4: of the server 0, by a change from elsewhere", 3, house.ping(0));
        house.make(2, 0, 3, false, 0, Leasehall.OF_SESSION, 0);
        house.close(2);
        Check.is("4: or by an end", 5, house.ping(0));
        house.pass(9);
        Check.is("4: it is there in time", 1, house.ping(1));
        house.pass(9);
        Check.is("4: and again", 1, house.ping(1));
        house.pass(10);
        Check.fails("4: too late", Check.STATE, () -> house.ping(1));
        Check.fails("4: no session 3", Check.RANGE, () -> house.ping(3));
        Check.fails("4: no session -1", Check.RANGE, () -> house.ping(-1));
    }

    private static void promise5() {
        Leasehall house = withSession();
        house.open(0, 1, 50);
        plain(house, 0, 0, 1, 1);
        Check.is("5: not to one that has fewer", false, house.move(0, 1));
        Check.is("5: then it stays", 1, house.ping(0));
        Check.is("5: to one that has as many", true, house.move(1, 2));
        Check.is("5: to its own", true, house.move(1, 2));
        Check.is("5: to one that has more", true, house.move(1, 0));
        Check.is("5: it reads there", 0, house.read(1, 1, 0));
        Check.is("5: not back", false, house.move(1, 2));
        house.close(1);
        Check.fails("5: no session", Check.RANGE, () -> house.move(2, 0));
        Check.fails("5: no server 3", Check.RANGE, () -> house.move(0, 3));
        Check.fails("5: no server -1, of an ended one", Check.RANGE, () -> house.move(1, -1));
        Check.fails("5: it has ended", Check.STATE, () -> house.move(1, 0));
    }

    private static void promise5Alive() {
        Leasehall house = withSession();
        house.open(0, 0, 2);
        plain(house, 0, 0, 1, 1);
        house.pass(1);
        Check.is("5: not moved", false, house.move(1, 2));
        house.pass(1);
        Check.is("5: but it did something by that", 1, house.ping(1));
    }

    private static void promise6() {
        Leasehall house = withSession();
        house.open(0, 1, 50);
        plain(house, 0, 0, 1, 1);
        plain(house, 0, 0, 2, 2);
        Check.is("6: the server 0 gets none", 0, house.sync(0));
        Check.is("6: all", 2, house.sync(1));
        Check.is("6: none is left", 0, house.sync(1));
        Check.is("6: it reads them", 2, house.read(1, 0, 6));
        house.close(1);
        Check.fails("6: it has ended", Check.STATE, () -> house.sync(1));
        Check.fails("6: no session", Check.RANGE, () -> house.sync(2));
    }

    private static void promise7() {
        Leasehall house = withSession();
        house.open(0, 2, 50);
        for (int i = 0; i < 25; i++) {
            house.set(0, 0, i, -1);
        }
        Check.fails("7: no server 3", Check.RANGE, () -> house.follow(3, 0));
        Check.fails("7: no server -1", Check.RANGE, () -> house.follow(-1, 1));
        Check.fails("7: at most 0", Check.ARGUMENT, () -> house.follow(2, 0));
        Check.fails("7: at most 21", Check.ARGUMENT, () -> house.follow(0, 21));
        Check.is("7: one", 1, house.follow(2, 1));
        Check.is("7: as it was then", 0, house.read(1, 0, 0));
        Check.is("7: twenty", 20, house.follow(2, 20));
        Check.is("7: as it was behind them", 20, house.read(1, 0, 0));
        Check.is("7: what is left", 4, house.follow(2, 20));
        Check.is("7: nothing is left", 0, house.follow(2, 20));
        Check.is("7: the server 0 has all", 0, house.follow(0, 20));
        Check.is("7: the server 1 is by itself", 20, house.follow(1, 20));
    }

    private static void promise8() {
        Leasehall house = new Leasehall();
        Check.fails("8: 0", Check.ARGUMENT, () -> house.pass(0));
        Check.fails("8: 51", Check.ARGUMENT, () -> house.pass(51));
        Check.is("8: 1", 1, house.pass(1));
        Check.is("8: 50 more", 51, house.pass(50));
        Check.fails("8: -1", Check.ARGUMENT, () -> house.pass(-1));
        Check.is("8: what is refused takes no time", 52, house.pass(1));
    }

    /** Units by themselves, sessions by numbers, then leases, a change for each that has nodes. */
    private static void promise8Order() {
        Leasehall house = new Leasehall();
        house.open(0, 0, 50);
        house.open(0, 0, 5);
        house.open(0, 0, 4);
        house.open(0, 0, 5);
        house.open(0, 0, 5);
        house.lease(5);
        house.lease(4);
        house.make(1, 0, 1, false, 0, Leasehall.OF_SESSION, 0);
        house.make(2, 0, 2, false, 0, Leasehall.OF_SESSION, 0);
        house.make(4, 0, 3, false, 0, Leasehall.OF_SESSION, 0);
        house.make(0, 0, 4, false, 0, Leasehall.OF_LEASE, 0);
        house.make(0, 0, 5, false, 0, Leasehall.OF_LEASE, 1);
        house.make(0, 0, 6, false, 0, Leasehall.CONTAINER, 0);
        house.make(1, 6, 0, true, 0, Leasehall.OF_SESSION, 0);
        house.watch(0, 0, Leasehall.BRANCH);
        house.pass(10);
        Check.hears("8: the order of ends", house, 0, 22, 52, 12, 72, 62, 32, 42);
        Check.is("8: a change for each with nodes", 12, house.changes());
        Check.is("8: the change of the session 2", 8, house.changedAt(2, 7, 0));
        Check.is("8: of the lease 1", 9, house.changedAt(5, 7, 0));
        Check.is("8: of the session 1", 10, house.changedAt(1, 7, 0));
        Check.is("8: its container in the same", 10, house.changedAt(6, 7, 0));
        Check.is("8: of the session 4", 11, house.changedAt(3, 7, 0));
        Check.is("8: of the lease 0", 12, house.changedAt(4, 7, 0));
        Check.fails("8: the session 3 has ended without", Check.STATE, () -> house.ping(3));
    }

    /** What counts as doing something: each call that names the session and throws nothing. */
    private static void promise8Alive() {
        for (int call = 0; call < 22; call++) {
            Leasehall house = withSession();
            house.open(1, 1, 4);
            house.make(0, 0, 1, false, 0, Leasehall.PLAIN, 0);
            house.pass(3);
            boolean counts = does(house, call);
            house.pass(3);
            if (counts) {
                Check.is("8: alive by call " + call, true, house.ping(1) >= 0);
            } else {
                Check.fails("8: lapsed in spite of call " + call, Check.STATE, () -> house.ping(1));
            }
        }
    }

    private static boolean does(Leasehall house, int call) {
        switch (call) {
            case 0: house.ping(1); return true;
            case 1: house.move(1, 2); return true;
            case 2: house.sync(1); return true;
            case 3: house.make(1, 9, 1, false, 0, Leasehall.PLAIN, 0); return true;
            case 4: house.set(1, 9, 0, 0); return true;
            case 5: house.delete(1, 0, -1); return true;
            case 6: house.rights(1, 9, 0, 0, true); return true;
            case 7: house.check(1, 9, 0); return true;
            case 8: house.gather(1); return true;
            case 9: house.read(1, 9, 0); return true;
            case 10: house.child(1, 9, 0); return true;
            case 11: house.watch(1, 9, 0); return true;
            case 12: house.hear(1); return true;
            case 13: house.want(1, 9, true); return true;
            case 14: house.has(1, 9); return true;
            case 15: house.giveUp(1, 9); return true;
            case 16: house.isOpen(1, 9, 1); return true;
            case 17: house.takeFirst(1, 9); return true;
            case 18: house.answer(1, 0); return false;
            case 19: Check.fails("8: bad", Check.ARGUMENT, () -> house.read(1, 0, 10)); return false;
            case 20: Check.fails("8: bad", Check.STATE, () -> house.done(1)); return false;
            default: Check.fails("8: bad", Check.RANGE, () -> house.move(1, 7)); return false;
        }
    }

    private static void promise8AliveByDone() {
        Leasehall house = withSession();
        house.open(1, 1, 4);
        house.gather(1);
        house.pass(3);
        house.set(1, 0, 1, -1);
        house.pass(3);
        house.done(1);
        house.pass(3);
        Check.is("8: alive by done()", 1, house.ping(1));
        house.pass(3);
        Check.fails("8: gather() by one that does not gather is fine", null, () -> house.gather(1));
        house.pass(3);
        Check.fails("8: gathers already", Check.STATE, () -> house.gather(1));
        house.pass(1);
        Check.fails("8: which is nothing done", Check.STATE, () -> house.ping(1));
    }

    private static void promise9() {
        Leasehall house = new Leasehall();
        Check.fails("9: 0", Check.ARGUMENT, () -> house.lease(0));
        Check.fails("9: 51", Check.ARGUMENT, () -> house.lease(51));
        for (int i = 0; i < 10; i++) {
            Check.is("9: its number", i, house.lease(i == 0 ? 1 : 50));
        }
        Check.fails("9: the eleventh", Check.STATE, () -> house.lease(1));
        Check.fails("9: the eleventh, 0", Check.ARGUMENT, () -> house.lease(0));
        house.pass(1);
        Check.fails("9: it has ended", Check.STATE, () -> house.renew(0));
        Check.fails("9: also when one has ended", Check.STATE, () -> house.lease(1));
        Check.is("9: another is there", 51, house.renew(1));
    }

    private static void promise10() {
        Leasehall house = withSession();
        house.pass(5);
        house.lease(10);
        Check.is("10: at once", 15, house.renew(0));
        house.make(0, 0, 1, false, 0, Leasehall.OF_LEASE, 0);
        house.pass(9);
        Check.is("10: until then", 24, house.renew(0));
        house.pass(9);
        Check.is("10: its node is there", 0, house.read(0, 1, 0));
        Check.is("10: no change yet", 1, house.changes());
        house.pass(1);
        Check.is("10: its node goes", Leasehall.NO_NODE, house.read(0, 1, 0));
        Check.is("10: by a change", 2, house.changes());
        Check.fails("10: it has ended", Check.STATE, () -> house.renew(0));
        Check.fails("10: no lease 1", Check.RANGE, () -> house.renew(1));
        Check.fails("10: no lease -1", Check.RANGE, () -> house.renew(-1));
    }

    public static void main(String[] args) {
        promise1();
        promise2();
        promise2Lapsing();
        promise3();
        promise3AtAnother();
        promise4();
        promise5();
        promise5Alive();
        promise6();
        promise7();
        promise8();
        promise8Order();
        promise8Alive();
        promise8AliveByDone();
        promise9();
        promise10();
        Check.end("promises 1 to 10");
    }
}
