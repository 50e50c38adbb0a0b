import java.util.ArrayList;
import java.util.List;
import java.util.function.Consumer;

/**
 * "A method that throws an exception changes nothing, but for what a session believes that is told that it has ended."
 * One house gets a call that throws, another one does not; both have to tell the same in all that can be asked then.
 */
final class UnchangedTest {
    private static final int ANY = Leasehall.ANY;
    private static final int LAPSED = 3, CLOSED = 4, FULL_OF_WATCHES = 5, FULL_OF_ACTS = 6;

    private static final class Wrong {
        final String what;
        final Class<?> due;
        final Consumer<Leasehall> call;

        Wrong(String what, Class<?> due, Consumer<Leasehall> call) {
            this.what = what;
            this.due = due;
            this.call = call;
        }
    }

    private static final List<Wrong> WRONGS = new ArrayList<>();

    private UnchangedTest() {
    }

    private static void wrong(String what, Class<?> due, Consumer<Leasehall> call) {
        WRONGS.add(new Wrong(what, due, call));
    }

    /** Ten sessions and leases, some ended, some full, servers behind, a lost answer, a past that is compacted. */
    private static Leasehall scene() {
        Leasehall house = new Leasehall();
        for (int i = 0; i < 10; i++) {
            house.open(i % 4, i % 3, i == LAPSED ? 5 : 9);
            house.lease(i == LAPSED ? 5 : 12);
        }
        house.make(0, 0, 1, false, 5, Leasehall.PLAIN, 0);
        house.want(LAPSED, 1, true);
        house.has(LAPSED, 1);
        house.want(CLOSED, 1, true);
        house.want(7, 1, true);
        house.has(7, 1);
        house.make(0, 0, 2, false, 5, Leasehall.OF_LEASE, 7);
        house.snapshot();
        house.close(CLOSED);
        house.pass(4);
        for (int i = 0; i < 10; i++) {
            if (i != LAPSED && i != CLOSED) {
                house.ping(i);
            }
        }
        house.pass(3);
        for (int i = 0; i < 8; i++) {
            house.watch(FULL_OF_WATCHES, 0, i % 3);
        }
        house.watch(1, 0, Leasehall.BRANCH);
        house.gather(1);
        house.check(1, 1, ANY);
        house.gather(FULL_OF_ACTS);
        for (int i = 0; i < 6; i++) {
            house.set(FULL_OF_ACTS, 0, i, ANY);
        }
        house.set(0, 1, 8, ANY);
        house.compact(4);
        house.store(7, 8);
        house.lose(true);
        return house;
    }

    private static void listArguments() {
        wrong("open, person", Check.RANGE, house -> house.open(4, 0, 5));
        wrong("open, server", Check.RANGE, house -> house.open(0, -1, 5));
        wrong("open, patience", Check.ARGUMENT, house -> house.open(0, 0, 51));
        wrong("open, the eleventh", Check.STATE, house -> house.open(0, 0, 5));
        wrong("move, server", Check.RANGE, house -> house.move(1, 3));
        wrong("follow, server", Check.RANGE, house -> house.follow(3, 1));
        wrong("follow, most", Check.ARGUMENT, house -> house.follow(1, 21));
        wrong("pass, 0", Check.ARGUMENT, house -> house.pass(0));
        wrong("pass, 51", Check.ARGUMENT, house -> house.pass(51));
        wrong("lease, time", Check.ARGUMENT, house -> house.lease(51));
        wrong("lease, the eleventh", Check.STATE, house -> house.lease(5));
        wrong("renew, lease", Check.RANGE, house -> house.renew(10));
        wrong("renew, ended", Check.STATE, house -> house.renew(LAPSED));
        wrong("quota", Check.ARGUMENT, house -> house.quota(0, 81));
        wrong("store", Check.ARGUMENT, house -> house.store(10001, 5));
        wrong("valueAt, change", Check.ARGUMENT, house -> house.valueAt(0, 99));
        wrong("valueAt, compacted", Check.STATE, house -> house.valueAt(0, 3));
        wrong("changedAt, place", Check.RANGE, house -> house.changedAt(0, 4, -1));
        wrong("changedAt, change", Check.ARGUMENT, house -> house.changedAt(0, 99, 0));
        wrong("changedAt, compacted", Check.STATE, house -> house.changedAt(0, 3, 0));
        wrong("compact", Check.ARGUMENT, house -> house.compact(99));
        wrong("answer, place", Check.RANGE, house -> house.answer(1, -1));
    }

    private static void listSessionArguments() {
        for (int session : new int[] {0, 1, FULL_OF_WATCHES, FULL_OF_ACTS}) {
            wrong("make, name", Check.ARGUMENT, house -> house.make(session, 0, 100, false, 0, 0, 0));
            wrong("make, value", Check.ARGUMENT, house -> house.make(session, 0, 0, true, 1001, 0, 0));
            wrong("make, kind", Check.ARGUMENT, house -> house.make(session, 0, 0, true, 0, 4, 0));
            wrong("make, lease", Check.RANGE, house -> house.make(session, 0, 0, true, 0, 2, 10));
            wrong("make, ended lease", Check.STATE, house -> house.make(session, 0, 0, true, 0, 2, LAPSED));
            wrong("set, value", Check.ARGUMENT, house -> house.set(session, 0, -1001, ANY));
            wrong("rights, read", Check.ARGUMENT, house -> house.rights(session, 0, 16, 0, true));
            wrong("rights, write", Check.ARGUMENT, house -> house.rights(session, 0, 0, -1, true));
            wrong("read, what", Check.ARGUMENT, house -> house.read(session, 0, 10));
            wrong("child, place", Check.RANGE, house -> house.child(session, 0, -1));
            wrong("watch, kind", Check.ARGUMENT, house -> house.watch(session, 0, 3));
            wrong("isOpen, many", Check.ARGUMENT, house -> house.isOpen(session, 0, 81));
        }
        wrong("watch, the ninth", Check.STATE, house -> house.watch(FULL_OF_WATCHES, 0, 0));
        wrong("done, not gathering", Check.STATE, house -> house.done(0));
        for (int session : new int[] {1, FULL_OF_ACTS}) {
            wrong("gather, gathering", Check.STATE, house -> house.gather(session));
            wrong("want, gathering", Check.STATE, house -> house.want(session, 0, true));
            wrong("takeFirst, gathering", Check.STATE, house -> house.takeFirst(session, 0));
        }
        wrong("make, the seventh", Check.STATE, house -> house.make(FULL_OF_ACTS, 0, 0, true, 0, 0, 0));
        wrong("set, the seventh", Check.STATE, house -> house.set(FULL_OF_ACTS, 0, 0, ANY));
        wrong("delete, the seventh", Check.STATE, house -> house.delete(FULL_OF_ACTS, 1, ANY));
        wrong("rights, the seventh", Check.STATE, house -> house.rights(FULL_OF_ACTS, 0, 0, 0, true));
        wrong("check, the seventh", Check.STATE, house -> house.check(FULL_OF_ACTS, 0, ANY));
    }

    private static void listSessions() {
        for (SessionCall call : SessionCall.values()) {
            for (int session : new int[] {-1, 10}) {
                wrong(call + ", no session " + session, Check.RANGE, house -> call.ask(house, session));
            }
            if (call != SessionCall.ANSWER) {
                wrong(call + ", one that was closed", Check.STATE, house -> call.ask(house, CLOSED));
            }
        }
    }

    /** What can be asked without any session's doing anything, and by that, which sessions lapse when. */
    private static String asked(Leasehall house) {
        StringBuilder told = new StringBuilder();
        told.append(house.changes()).append(' ').append(house.stored()).append(' ').append(house.compact(0));
        for (int node = 0; node < 12; node++) {
            told.append('\n').append(node).append(": ").append(house.believers(node));
            for (int change = house.compact(0); change <= house.changes(); change++) {
                told.append(' ').append(house.valueAt(node, change));
                told.append(' ').append(house.changedAt(node, change, 0));
            }
        }
        for (int session = 0; session < 10; session++) {
            for (int place = 0; place < 7; place++) {
                told.append(' ').append(house.answer(session, place));
            }
        }
        return told.toString();
    }

    private static String lapsing(Leasehall house) {
        StringBuilder told = new StringBuilder(asked(house));
        for (int i = 0; i < 14; i++) {
            told.append('\n').append(house.pass(1)).append(asked(house));
        }
        return told.toString();
    }

    private static String answered(Leasehall house, int session, int way) {
        StringBuilder told = new StringBuilder();
        try {
            switch (way) {
                case 0: told.append(house.ping(session)); break;
                case 1: told.append(house.hear(session)); break;
                case 2: told.append(house.done(session)); break;
                case 3: told.append(house.watch(session, 0, Leasehall.BRANCH)); break;
                case 4: told.append(house.has(session, 1)); break;
                case 5: told.append(house.check(session, 0, ANY)); break;
                case 6: told.append(house.set(session, 0, 77, ANY)); break;
                case 7: told.append(house.make(session, 0, 0, true, 4, Leasehall.OF_SESSION, 0)); break;
                case 8: told.append(house.want(session, 1, false)); break;
                case 9: told.append(house.hear(session)).append(' ').append(house.hear(session)); break;
                default:
                    for (int what = 0; what < 10; what++) {
                        told.append(' ').append(house.read(session, 0, what));
                        told.append(' ').append(house.read(session, 1, what));
                        told.append(' ').append(house.child(session, 0, what));
                    }
            }
        } catch (RuntimeException e) {
            told.append(e.getClass().getSimpleName());
        }
        return told.append(' ').toString();
    }

    private static String used(Leasehall house) {
        StringBuilder told = new StringBuilder(asked(house));
        for (int way = 0; way <= 10; way++) {
            for (int session = 0; session < 10; session++) {
                told.append(answered(house, session, way));
            }
            told.append('\n');
        }
        told.append(house.quota(0, 80)).append(' ').append(house.renew(0)).append(' ').append(house.follow(2, 20));
        return told.append(lapsing(house)).append(house.restore()).append(asked(house)).toString();
    }

    private static void looks() {
        String lapsing = lapsing(scene());
        String used = used(scene());
        for (Wrong wrong : WRONGS) {
            Leasehall first = scene();
            Check.fails(wrong.what, wrong.due, () -> wrong.call.accept(first));
            Check.is("unchanged by " + wrong.what, true, lapsing.equals(lapsing(first)));
            Leasehall second = scene();
            Check.fails(wrong.what, wrong.due, () -> wrong.call.accept(second));
            Check.is("unchanged for use by " + wrong.what, true, used.equals(used(second)));
        }
    }

    /** What throws because the session has ended ends what it believes, and changes nothing else. */
    private static void looksAtBeliefs() {
        Leasehall told = scene();
        Check.is("two believe", (1 << LAPSED) + (1 << 7), told.believers(1));
        Check.fails("told", Check.STATE, () -> told.ping(LAPSED));
        Check.is("one believes", 1 << 7, told.believers(1));
        String due = lapsing(told);
        for (SessionCall call : SessionCall.values()) {
            if (call != SessionCall.ANSWER) {
                Leasehall house = scene();
                Check.fails(call + ", one that lapsed", Check.STATE, () -> call.ask(house, LAPSED));
                Check.is("told by " + call, true, due.equals(lapsing(house)));
            }
        }
        Leasehall house = scene();
        Check.is("answer() does not tell it", Leasehall.NONE, house.answer(LAPSED, 0));
        Check.fails("nor do bad arguments", Check.ARGUMENT, () -> house.read(LAPSED, 0, 10));
        Check.fails("nor a bad place", Check.RANGE, () -> house.child(LAPSED, 0, -1));
        Check.fails("nor a bad lease", Check.RANGE, () -> house.make(LAPSED, 0, 0, true, 0, Leasehall.OF_LEASE, 10));
        Check.is("two believe still", (1 << LAPSED) + (1 << 7), house.believers(1));
    }

    public static void main(String[] args) {
        listArguments();
        listSessionArguments();
        listSessions();
        looks();
        looksAtBeliefs();
        Check.end("what is thrown changes nothing");
    }
}
