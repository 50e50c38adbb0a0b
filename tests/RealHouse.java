/** The class itself, as a House. */
final class RealHouse implements House {
    private final Leasehall house = new Leasehall();

    @Override
    public int open(int person, int server, int patience) {
        return house.open(person, server, patience);
    }

    @Override
    public int close(int session) {
        return house.close(session);
    }

    @Override
    public int ping(int session) {
        return house.ping(session);
    }

    @Override
    public boolean move(int session, int server) {
        return house.move(session, server);
    }

    @Override
    public int sync(int session) {
        return house.sync(session);
    }

    @Override
    public int follow(int server, int most) {
        return house.follow(server, most);
    }

    @Override
    public int pass(int time) {
        return house.pass(time);
    }

    @Override
    public int lease(int time) {
        return house.lease(time);
    }

    @Override
    public int renew(int lease) {
        return house.renew(lease);
    }

    @Override
    public int make(int session, int parent, int name, boolean numbered, int value, int kind, int lease) {
        return house.make(session, parent, name, numbered, value, kind, lease);
    }

    @Override
    public int set(int session, int node, int value, int version) {
        return house.set(session, node, value, version);
    }

    @Override
    public int delete(int session, int node, int version) {
        return house.delete(session, node, version);
    }

    @Override
    public int rights(int session, int node, int read, int write, boolean below) {
        return house.rights(session, node, read, write, below);
    }

    @Override
    public int check(int session, int node, int version) {
        return house.check(session, node, version);
    }

    @Override
    public void gather(int session) {
        house.gather(session);
    }

    @Override
    public int done(int session) {
        return house.done(session);
    }

    @Override
    public int answer(int session, int place) {
        return house.answer(session, place);
    }

    @Override
    public void lose(boolean done) {
        house.lose(done);
    }

    @Override
    public int quota(int node, int most) {
        return house.quota(node, most);
    }

    @Override
    public int read(int session, int node, int what) {
        return house.read(session, node, what);
    }

    @Override
    public int child(int session, int node, int place) {
        return house.child(session, node, place);
    }

    @Override
    public int watch(int session, int node, int kind) {
        return house.watch(session, node, kind);
    }

    @Override
    public int hear(int session) {
        return house.hear(session);
    }

    @Override
    public int want(int session, int lock, boolean shared) {
        return house.want(session, lock, shared);
    }

    @Override
    public int has(int session, int lock) {
        return house.has(session, lock);
    }

    @Override
    public int giveUp(int session, int lock) {
        return house.giveUp(session, lock);
    }

    @Override
    public int believers(int lock) {
        return house.believers(lock);
    }

    @Override
    public boolean isOpen(int session, int node, int many) {
        return house.isOpen(session, node, many);
    }

    @Override
    public int takeFirst(int session, int queue) {
        return house.takeFirst(session, queue);
    }

    @Override
    public boolean store(int fence, int number) {
        return house.store(fence, number);
    }

    @Override
    public int stored() {
        return house.stored();
    }

    @Override
    public int valueAt(int node, int change) {
        return house.valueAt(node, change);
    }

    @Override
    public int changedAt(int node, int change, int place) {
        return house.changedAt(node, change, place);
    }

    @Override
    public int compact(int change) {
        return house.compact(change);
    }

    @Override
    public int snapshot() {
        return house.snapshot();
    }

    @Override
    public int restore() {
        return house.restore();
    }

    @Override
    public int changes() {
        return house.changes();
    }
}
