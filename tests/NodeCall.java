/** The calls that name a node, by the session 0, with what each answers if there is none. */
enum NodeCall {
    MAKE(Leasehall.NO_NODE) {
        @Override
        int ask(Leasehall house, int node) {
            return house.make(0, node, 0, true, 0, Leasehall.PLAIN, 0);
        }
    },
    SET(Leasehall.NO_NODE) {
        @Override
        int ask(Leasehall house, int node) {
            return house.set(0, node, 7, Leasehall.ANY);
        }
    },
    DELETE(Leasehall.NO_NODE) {
        @Override
        int ask(Leasehall house, int node) {
            return house.delete(0, node, Leasehall.ANY);
        }
    },
    RIGHTS(Leasehall.NO_NODE) {
        @Override
        int ask(Leasehall house, int node) {
            return house.rights(0, node, 15, 15, true);
        }
    },
    CHECK(Leasehall.NO_NODE) {
        @Override
        int ask(Leasehall house, int node) {
            return house.check(0, node, Leasehall.ANY);
        }
    },
    QUOTA(Leasehall.NO_NODE) {
        @Override
        int ask(Leasehall house, int node) {
            return house.quota(node, 80);
        }
    },
    READ(Leasehall.NO_NODE) {
        @Override
        int ask(Leasehall house, int node) {
            return house.read(0, node, 0);
        }
    },
    CHILD(Leasehall.NO_NODE) {
        @Override
        int ask(Leasehall house, int node) {
            return house.child(0, node, 0);
        }
    },
    WATCH(Leasehall.NO_NODE) {
        @Override
        int ask(Leasehall house, int node) {
            return house.watch(0, node, Leasehall.VALUE);
        }
    },
    WANT(Leasehall.NO_NODE) {
        @Override
        int ask(Leasehall house, int node) {
            return house.want(0, node, true);
        }
    },
    HAS(Leasehall.NONE) {
        @Override
        int ask(Leasehall house, int node) {
            return house.has(0, node);
        }
    },
    GIVE_UP(0) {
        @Override
        int ask(Leasehall house, int node) {
            return house.giveUp(0, node);
        }
    },
    BELIEVERS(0) {
        @Override
        int ask(Leasehall house, int node) {
            return house.believers(node);
        }
    },
    IS_OPEN(0) {
        @Override
        int ask(Leasehall house, int node) {
            return house.isOpen(0, node, 1) ? 1 : 0;
        }
    },
    TAKE_FIRST(Leasehall.NO_NODE) {
        @Override
        int ask(Leasehall house, int node) {
            return house.takeFirst(0, node);
        }
    },
    VALUE_AT(Leasehall.NONE) {
        @Override
        int ask(Leasehall house, int node) {
            return house.valueAt(node, house.changes());
        }
    },
    CHANGED_AT(Leasehall.NONE) {
        @Override
        int ask(Leasehall house, int node) {
            return house.changedAt(node, house.compact(0), 0);
        }
    };

    final int without;

    NodeCall(int without) {
        this.without = without;
    }

    abstract int ask(Leasehall house, int node);
}
