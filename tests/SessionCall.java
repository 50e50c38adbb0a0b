/** The calls that name a session, each with other arguments that are fine, on a house where the node 0 is there. */
enum SessionCall {
    CLOSE {
        @Override
        int ask(Leasehall house, int session) {
            return house.close(session);
        }
    },
    PING {
        @Override
        int ask(Leasehall house, int session) {
            return house.ping(session);
        }
    },
    MOVE {
        @Override
        int ask(Leasehall house, int session) {
            return house.move(session, 0) ? 1 : 0;
        }
    },
    MOVE_REFUSED {
        @Override
        int ask(Leasehall house, int session) {
            return house.move(session, 2) ? 1 : 0;
        }
    },
    SYNC {
        @Override
        int ask(Leasehall house, int session) {
            return house.sync(session);
        }
    },
    MAKE {
        @Override
        int ask(Leasehall house, int session) {
            return house.make(session, 0, 0, true, 0, Leasehall.PLAIN, 0);
        }
    },
    SET {
        @Override
        int ask(Leasehall house, int session) {
            return house.set(session, 0, 7, Leasehall.ANY);
        }
    },
    DELETE {
        @Override
        int ask(Leasehall house, int session) {
            return house.delete(session, 0, Leasehall.ANY);
        }
    },
    RIGHTS {
        @Override
        int ask(Leasehall house, int session) {
            return house.rights(session, 0, 15, 15, false);
        }
    },
    CHECK {
        @Override
        int ask(Leasehall house, int session) {
            return house.check(session, 0, Leasehall.ANY);
        }
    },
    GATHER {
        @Override
        int ask(Leasehall house, int session) {
            house.gather(session);
            return 0;
        }
    },
    READ {
        @Override
        int ask(Leasehall house, int session) {
            return house.read(session, 0, 0);
        }
    },
    CHILD {
        @Override
        int ask(Leasehall house, int session) {
            return house.child(session, 0, 0);
        }
    },
    WATCH {
        @Override
        int ask(Leasehall house, int session) {
            return house.watch(session, 0, Leasehall.VALUE);
        }
    },
    HEAR {
        @Override
        int ask(Leasehall house, int session) {
            return house.hear(session);
        }
    },
    WANT {
        @Override
        int ask(Leasehall house, int session) {
            return house.want(session, 0, true);
        }
    },
    HAS {
        @Override
        int ask(Leasehall house, int session) {
            return house.has(session, 0);
        }
    },
    GIVE_UP {
        @Override
        int ask(Leasehall house, int session) {
            return house.giveUp(session, 0);
        }
    },
    IS_OPEN {
        @Override
        int ask(Leasehall house, int session) {
            return house.isOpen(session, 0, 1) ? 1 : 0;
        }
    },
    TAKE_FIRST {
        @Override
        int ask(Leasehall house, int session) {
            return house.takeFirst(session, 0);
        }
    },
    /** Throws for a session that does not gather. */
    DONE {
        @Override
        int ask(Leasehall house, int session) {
            return house.done(session);
        }
    },
    /** Asks of a session that may have ended, and is nothing that it does. */
    ANSWER {
        @Override
        int ask(Leasehall house, int session) {
            return house.answer(session, 0);
        }
    };

    abstract int ask(Leasehall house, int session);
}
