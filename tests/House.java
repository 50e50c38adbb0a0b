/** The calls of the face that name something, so that the class and the model can be asked alike. */
interface House {
    int open(int person, int server, int patience);

    int close(int session);

    int ping(int session);

    boolean move(int session, int server);

    int sync(int session);

    int follow(int server, int most);

    int pass(int time);

    int lease(int time);

    int renew(int lease);

    int make(int session, int parent, int name, boolean numbered, int value, int kind, int lease);

    int set(int session, int node, int value, int version);

    int delete(int session, int node, int version);

    int rights(int session, int node, int read, int write, boolean below);

    int check(int session, int node, int version);

    void gather(int session);

    int done(int session);

    int answer(int session, int place);

    void lose(boolean done);

    int quota(int node, int most);

    int read(int session, int node, int what);

    int child(int session, int node, int place);

    int watch(int session, int node, int kind);

    int hear(int session);

    int want(int session, int lock, boolean shared);

    int has(int session, int lock);

    int giveUp(int session, int lock);

    int believers(int lock);

    boolean isOpen(int session, int node, int many);

    int takeFirst(int session, int queue);

    boolean store(int fence, int number);

    int stored();

    int valueAt(int node, int change);

    int changedAt(int node, int change, int place);

    int compact(int change);

    int snapshot();

    int restore();

    int changes();
}
