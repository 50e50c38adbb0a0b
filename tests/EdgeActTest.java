/** The sentences of the terms under ACTS that name an edge, each at that edge. */
final class EdgeActTest {
    private static final int ANY = Leasehall.ANY;

    private EdgeActTest() {
    }

    /** The sessions 0 (person 0, server 0) and 1 (person 1, server 1). */
    private static Leasehall house() {
        Leasehall house = new Leasehall();
        house.open(0, 0, 50);
        house.open(1, 1, 50);
        return house;
    }

    private static int plain(Leasehall house, int session, int parent, int name) {
        return house.make(session, parent, name, false, 0, Leasehall.PLAIN, 0);
    }

    private static int numbered(Leasehall house, int session, int parent) {
        return house.make(session, parent, 0, true, 0, Leasehall.PLAIN, 0);
    }

    /** The nodes 1 (PLAIN, which only the person 0 may write to), 2 (below it, named 7), 3 (OF_SESSION). */
    private static Leasehall guarded() {
        Leasehall house = house();
        plain(house, 0, 0, 1);
        plain(house, 0, 1, 7);
        house.make(0, 0, 3, false, 0, Leasehall.OF_SESSION, 0);
        house.rights(0, 1, 13, 1, false);
        house.rights(0, 3, 13, 1, false);
        return house;
    }

    private static void fill(Leasehall house) {
        int made = 1;
        for (int i = 0; i < 80 && made > 0; i++) {
            made = numbered(house, 0, 0);
        }
    }

    /** "It is refused, of several the first": each reason, with all behind it that can apply, too. */
    private static void refusedMakes() {
        Leasehall house = guarded();
        house.quota(0, 3);
        fill(house);
        Check.is("NO_NODE", Leasehall.NO_NODE, plain(house, 1, 9, 7));
        Check.is("NO_RIGHT ahead of EXISTS", Leasehall.NO_RIGHT, plain(house, 1, 1, 7));
        Check.is("NO_RIGHT ahead of NO_CHILDREN", Leasehall.NO_RIGHT, plain(house, 1, 3, 7));
        Check.is("NO_RIGHT ahead of QUOTA", Leasehall.NO_RIGHT, plain(house, 1, 1, 8));
        Check.is("EXISTS ahead of QUOTA", Leasehall.EXISTS, plain(house, 0, 1, 7));
        Check.is("NO_CHILDREN ahead of QUOTA", Leasehall.NO_CHILDREN, plain(house, 0, 3, 7));
        Check.is("QUOTA", Leasehall.QUOTA, plain(house, 0, 1, 8));
        Check.is("QUOTA, numbered", Leasehall.QUOTA, numbered(house, 0, 1));
        house.quota(0, 80);
        fill(house);
        Check.is("NO_NODE ahead of FULL", Leasehall.NO_NODE, plain(house, 0, 80, 7));
        Check.is("NO_RIGHT ahead of FULL", Leasehall.NO_RIGHT, plain(house, 1, 1, 8));
        Check.is("EXISTS ahead of FULL", Leasehall.EXISTS, plain(house, 0, 1, 7));
        Check.is("NO_CHILDREN ahead of FULL", Leasehall.NO_CHILDREN, plain(house, 0, 3, 7));
        Check.is("FULL", Leasehall.FULL, plain(house, 0, 1, 8));
        house.quota(0, 79);
        Check.is("QUOTA ahead of FULL", Leasehall.QUOTA, plain(house, 0, 1, 8));
        house.quota(1, 1);
        house.quota(0, 80);
        Check.is("QUOTA of its parent ahead of FULL", Leasehall.QUOTA, plain(house, 0, 1, 8));
    }

    private static void refusedOthers() {
        Leasehall house = guarded();
        Check.is("set: NO_NODE ahead of BAD_VERSION", Leasehall.NO_NODE, house.set(1, 9, 0, 5));
        Check.is("set: NO_RIGHT ahead of BAD_VERSION", Leasehall.NO_RIGHT, house.set(1, 1, 0, 5));
        Check.is("set: BAD_VERSION", Leasehall.BAD_VERSION, house.set(0, 1, 0, 5));
        Check.is("check: NO_NODE ahead of BAD_VERSION", Leasehall.NO_NODE, house.check(1, 9, 5));
        Check.is("check: NO_RIGHT ahead of BAD_VERSION", Leasehall.NO_RIGHT, house.check(1, 1, 5));
        Check.is("check: BAD_VERSION", Leasehall.BAD_VERSION, house.check(0, 1, 5));
        Check.is("rights: NO_NODE", Leasehall.NO_NODE, house.rights(1, 9, 0, 0, true));
        Check.is("rights: NO_RIGHT", Leasehall.NO_RIGHT, house.rights(1, 1, 0, 0, true));
        plain(house, 0, 2, 1);
        Check.is("delete: NO_NODE ahead of all", Leasehall.NO_NODE, house.delete(1, 9, 5));
        Check.is("delete: NO_RIGHT ahead of BAD_VERSION", Leasehall.NO_RIGHT, house.delete(1, 2, 5));
        Check.is("delete: NO_RIGHT ahead of NOT_EMPTY", Leasehall.NO_RIGHT, house.delete(1, 2, 0));
        Check.is("delete: BAD_VERSION ahead of NOT_EMPTY", Leasehall.BAD_VERSION, house.delete(0, 2, 5));
        Check.is("delete: NOT_EMPTY", Leasehall.NOT_EMPTY, house.delete(0, 2, 0));
        Check.is("delete: its own rights are not asked", Leasehall.NOT_EMPTY, house.delete(1, 1, 0));
        house.rights(0, 0, 0, 0, false);
        Check.is("for the node 0 nobody: BAD_VERSION", Leasehall.BAD_VERSION, house.delete(1, 0, 5));
        Check.is("for the node 0 nobody: NOT_EMPTY", Leasehall.NOT_EMPTY, house.delete(1, 0, 0));
        Check.is("its own children are asked of it", Leasehall.NO_RIGHT, house.delete(0, 1, ANY));
        Check.is("to check is to read", Leasehall.NO_RIGHT, house.check(0, 0, ANY));
    }

    /** "QUOTA: some node above it, or its parent, would have more nodes below it than its quota". */
    private static void quotas() {
        for (int most = 0; most <= 4; most++) {
            Leasehall house = house();
            plain(house, 0, 0, 1);
            Check.is("none is below", 0, house.quota(1, most));
            for (int i = 0; i < 4; i++) {
                int due = i < most ? 2 + i : Leasehall.QUOTA;
                Check.is("the parent's quota " + most, due, plain(house, 0, 1, i));
            }
        }
        for (int above = 0; above < 3; above++) {
            Leasehall house = house();
            plain(house, 0, 0, 1);
            plain(house, 0, 1, 1);
            plain(house, 0, 2, 1);
            Check.is("as many as there are", 3 - above, house.quota(above, 3 - above));
            Check.is("one more than that of " + above, Leasehall.QUOTA, plain(house, 0, 3, 1));
            Check.is("may be one more", 3 - above, house.quota(above, 4 - above));
            Check.is("that of " + above, 4, plain(house, 0, 3, 1));
            Check.is("may be fewer than there are", 4 - above, house.quota(above, 0));
            Check.is("which go not", 0, house.read(0, 4, 0));
            Check.is("may be 80", 4 - above, house.quota(above, 80));
            Check.is("so one more", 5, plain(house, 0, 3, 2));
        }
    }

    private static void quotasAside() {
        Leasehall house = house();
        plain(house, 0, 0, 1);
        plain(house, 0, 0, 2);
        plain(house, 0, 1, 1);
        house.quota(2, 0);
        house.quota(3, 0);
        Check.is("beside and below do not matter", 4, plain(house, 0, 1, 2));
        Check.is("its own", Leasehall.QUOTA, plain(house, 0, 3, 2));
        house.quota(0, 5);
        house.gather(0);
        house.delete(0, 4, ANY);
        plain(house, 0, 1, 3);
        plain(house, 0, 1, 4);
        plain(house, 0, 1, 5);
        Check.is("each seeing those ahead", -4, house.done(0));
        Check.is("the last but one", 6, house.answer(0, 2));
        Check.is("the last", Leasehall.QUOTA, house.answer(0, 3));
        house.delete(0, 4, ANY);
        house.snapshot();
        house.quota(0, 3);
        house.restore();
        int me = house.open(0, 0, 50);
        Check.is("quotas stay as they are", Leasehall.QUOTA, plain(house, me, 1, 2));
        Check.is("so many are there", 3, house.quota(0, 4));
        Check.is("one more", 5, plain(house, me, 1, 2));
    }

    private static void asksSixth(Leasehall house, int way) {
        switch (way) {
            case 0: house.make(0, 0, 0, true, 0, Leasehall.PLAIN, 0); break;
            case 1: house.set(0, 0, 0, ANY); break;
            case 2: house.delete(0, 0, ANY); break;
            case 3: house.rights(0, 0, 15, 15, false); break;
            default: house.check(0, 0, ANY);
        }
    }

    /** "A session can gather acts, at most 6, in place of doing them". */
    private static void atMostSix() {
        for (int way = 0; way < 5; way++) {
            Leasehall house = house();
            house.gather(0);
            for (int i = 0; i < 5; i++) {
                Check.is("gathered", Leasehall.GATHERED, house.set(0, 0, i, ANY));
            }
            int which = way;
            Check.fails("the sixth, " + way, null, () -> asksSixth(house, which));
            Check.fails("the seventh, " + way, Check.STATE, () -> asksSixth(house, which));
            int refused = way == 2 ? -6 : 1;
            Check.is("done, " + way, refused, house.done(0));
            Check.is("six answers, " + way, true, house.answer(0, 5) != Leasehall.NONE);
            Check.is("and no more, " + way, Leasehall.NONE, house.answer(0, 6));
            house.gather(0);
            for (int i = 0; i < 6; i++) {
                Check.is("six again", Leasehall.GATHERED, house.check(0, 0, ANY));
            }
            Check.fails("the seventh again, " + way, Check.STATE, () -> asksSixth(house, which));
            Check.is("another one's do not matter", way == 2 ? 1 : way == 1 ? 7 : 6, house.set(1, 0, 0, ANY));
        }
    }

    /** "or, if one is refused, none ... those ahead of the one that is refused what they would have, ... SKIPPED". */
    private static void refusedAt() {
        for (int many = 1; many <= 6; many++) {
            for (int at = 0; at <= many; at++) {
                Leasehall house = house();
                house.set(0, 0, 7, ANY);
                house.gather(1);
                for (int i = 0; i < many; i++) {
                    house.set(1, 0, i, i == at ? 0 : ANY);
                }
                int due = at < many ? -1 - at : 2;
                Check.is("of " + many + ", refused at " + at, due, house.done(1));
                for (int i = 0; i < many; i++) {
                    int answer = i < at ? 2 + i : i == at ? Leasehall.BAD_VERSION : Leasehall.SKIPPED;
                    Check.is("answer " + i, answer, house.answer(1, i));
                }
                Check.is("there are not so many", Leasehall.NONE, house.answer(1, many));
                Check.is("the value", at < many ? 7 : many - 1, house.read(0, 0, 0));
                Check.is("the version", at < many ? 1 : 1 + many, house.read(0, 0, 1));
                Check.is("its server", at < many ? 0 : 2, house.ping(1));
                Check.fails("it gathers no more", Check.STATE, () -> house.done(1));
            }
        }
    }

    /** "a node OF_LEASE is made also if its lease has ended by then, and stays". */
    private static void madeOfEndedLease() {
        for (int passed = 1; passed <= 4; passed++) {
            Leasehall house = house();
            house.lease(3);
            house.gather(0);
            house.make(0, 0, 1, false, 5, Leasehall.OF_LEASE, 0);
            house.pass(passed);
            Check.is("done", 1, house.done(0));
            Check.is("made", 5, house.read(0, 1, 0));
            house.pass(4);
            Check.is("stays, if the lease had ended", passed >= 3 ? 5 : Leasehall.NO_NODE, house.read(0, 1, 0));
        }
        Leasehall house = house();
        house.lease(1);
        house.gather(0);
        house.pass(1);
        Check.fails("gathered, when it has ended", Check.STATE,
            () -> house.make(0, 0, 1, false, 5, Leasehall.OF_LEASE, 0));
        Check.is("which is not gathered", 0, house.done(0));
        Check.is("so there is none", Leasehall.NONE, house.answer(0, 0));
    }

    /** "or, if one is refused, none": nothing of them gets to any server, to a watch, or into the past. */
    private static void nothingOfRefused() {
        for (int way = 0; way < 2; way++) {
            Leasehall house = house();
            house.watch(1, 0, Leasehall.BRANCH);
            house.gather(0);
            house.set(0, 0, 5, ANY);
            plain(house, 0, 0, 1);
            if (way == 0) {
                house.check(0, 9, ANY);
            } else {
                house.lose(false);
            }
            Check.is("not done", way == 0 ? -3 : Leasehall.NONE, house.done(0));
            house.set(0, 0, 6, ANY);
            Check.is("the first change is another", 1, house.sync(1));
            Check.is("which set the value", 6, house.read(1, 0, 0));
            Check.is("once", 1, house.read(1, 0, 1));
            Check.hears("and is all that is told", house, 1, Leasehall.SET);
            Check.is("or in the past", 6, house.valueAt(0, 1));
            Check.is("no node", Leasehall.NONE, house.valueAt(1, 1));
            Check.is("no node's change", Leasehall.NONE, house.changedAt(1, 0, 0));
        }
    }

    private static int acts(Leasehall house, int way) {
        switch (way) {
            case 0: return plain(house, 0, 0, 9);
            case 1: return house.set(0, 1, 6, 0);
            case 2: return house.delete(0, 2, 0);
            case 3: return house.rights(0, 1, 7, 7, true);
            case 4: return house.check(0, 1, 0);
            case 5: return house.want(0, 1, true);
            case 6: return house.takeFirst(0, 1);
            default:
                house.gather(0);
                house.set(0, 1, 6, 0);
                return house.done(0);
        }
    }

    private static Leasehall withTwo() {
        Leasehall house = house();
        plain(house, 0, 0, 1);
        house.make(0, 1, 1, false, 44, Leasehall.PLAIN, 0);
        return house;
    }

    /** "the answer of the next call by which acts, one or more, would be done is LOST: they are done, or not". */
    private static void lost() {
        int[] due = {3, 1, 1, 2, 0, 3, 44, 3};
        for (int way = 0; way < due.length; way++) {
            int lost = way == 7 ? Leasehall.NONE : Leasehall.LOST;
            Leasehall house = withTwo();
            Check.is("not lost, way " + way, due[way], acts(house, way));
            Leasehall done = withTwo();
            done.lose(true);
            Check.is("lost, but done, way " + way, lost, acts(done, way));
            Check.is("so it is a change, way " + way, house.changes(), done.changes());
            Check.is("the next one is not lost", 0, done.check(0, 0, ANY));
            Leasehall undone = withTwo();
            undone.lose(false);
            Check.is("lost, not done, way " + way, lost, acts(undone, way));
            Check.is("so it is no change, way " + way, 2, undone.changes());
            Check.is("it can be done yet, way " + way, due[way], acts(undone, way));
            Leasehall twice = withTwo();
            twice.lose(true);
            twice.lose(false);
            Check.is("the last one told, way " + way, lost, acts(twice, way));
            Check.is("is what counts, way " + way, 2, twice.changes());
        }
    }

    /** "(One by which an act is refused is not that call, nor is giveUp().)", nor one that does no acts. */
    private static void notLost() {
        Leasehall house = withTwo();
        house.want(0, 0, false);
        house.open(2, 2, 1);
        house.make(2, 0, 0, true, 0, Leasehall.OF_SESSION, 0);
        house.lose(true);
        Check.is("refused make", Leasehall.EXISTS, plain(house, 0, 0, 1));
        Check.is("refused set", Leasehall.BAD_VERSION, house.set(0, 0, 0, 5));
        Check.is("refused delete", Leasehall.NOT_EMPTY, house.delete(0, 1, 0));
        Check.is("refused rights", Leasehall.NO_NODE, house.rights(0, 9, 0, 0, true));
        Check.is("refused check", Leasehall.BAD_VERSION, house.check(0, 0, 5));
        Check.is("refused want", Leasehall.NO_NODE, house.want(0, 9, true));
        Check.is("refused takeFirst", Leasehall.NO_NODE, house.takeFirst(0, 9));
        Check.is("takeFirst of none", Leasehall.NONE, house.takeFirst(0, 2));
        house.gather(0);
        Check.is("gathered", Leasehall.GATHERED, house.check(0, 9, 0));
        Check.is("refused done", -1, house.done(0));
        house.gather(0);
        Check.is("done without acts", 4, house.done(0));
        Check.is("giveUp", 1, house.giveUp(0, 0));
        Check.is("giveUp of none", 0, house.giveUp(0, 0));
        Check.is("sync", 1, house.sync(2));
        Check.is("close", 1, house.close(2));
        Check.is("the end of no session", 1, house.pass(1));
        Check.is("a snapshot", 3, house.snapshot());
        Check.is("restoring", 7, house.restore());
        int me = house.open(0, 0, 50);
        Check.fails("what throws", Check.ARGUMENT, () -> house.set(me, 0, 1001, ANY));
        Check.is("the next call by which an act is done", Leasehall.LOST, house.check(me, 0, ANY));
        Check.is("and just that", 0, house.check(me, 0, ANY));
    }

    /** "Tells what an act answered that a session gathered last ...; also if that is LOST, but not by the call itself". */
    private static void answersOfLost() {
        for (int way = 0; way < 2; way++) {
            Leasehall house = withTwo();
            house.gather(0);
            plain(house, 0, 0, 9);
            house.set(0, 3, 5, 0);
            house.lose(way == 0);
            Check.is("lost", Leasehall.NONE, house.done(0));
            int[] due = {3, 1, Leasehall.NONE, Leasehall.NONE, Leasehall.NONE, Leasehall.NONE, Leasehall.NONE};
            for (int i = 0; i < due.length; i++) {
                Check.is("answer " + i, due[i], house.answer(0, i));
            }
            Check.is("done or not", way == 0 ? 5 : Leasehall.NO_NODE, house.read(0, 3, 0));
        }
    }

    public static void main(String[] args) {
        refusedMakes();
        refusedOthers();
        quotas();
        quotasAside();
        atMostSix();
        refusedAt();
        madeOfEndedLease();
        nothingOfRefused();
        lost();
        notLost();
        answersOfLost();
        Check.end("edges of acts");
    }
}
