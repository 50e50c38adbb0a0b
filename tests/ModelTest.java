import java.util.Arrays;
import java.util.Random;

/** Long runs of calls by dice of a fixed seed, each answered by the class and by the model alike. */
final class ModelTest {
    private static final int CALLS = 512;
    private static final String[] NAMES = {"open", "close", "ping", "move", "sync", "follow", "pass", "lease", "renew",
        "make", "set", "delete", "rights", "check", "gather", "done", "answer", "lose", "quota", "read", "child",
        "watch", "hear", "want", "has", "giveUp", "believers", "isOpen", "takeFirst", "store", "stored", "valueAt",
        "changedAt", "compact", "snapshot", "restore", "changes"};
    // How often each is called, in that order.
    private static final int[] OFTEN = {6, 1, 3, 8, 4, 8, 6, 3, 4, 60, 20, 25, 8, 8, 8, 14, 12, 5, 5, 40, 20, 15, 30,
        12, 20, 8, 8, 6, 8, 4, 2, 15, 15, 2, 2, 1, 3};

    private final Random dice;
    private final Model model = new Model();
    private final House real = new RealHouse();
    private final int[] often = OFTEN.clone();
    private final int most;
    private final int patience;
    private final StringBuilder told = new StringBuilder();

    private ModelTest(long seed) {
        dice = new Random(seed);
        for (int i = 0; i < often.length; i++) {
            often[i] = dice.nextInt(4) == 0 ? often[i] / 4 : often[i] * (1 + dice.nextInt(3));
        }
        often[0] = Math.max(1, often[0]);
        often[9] = Math.max(20, often[9]);
        most = dice.nextInt(3) == 0 ? 80 : 2 + dice.nextInt(20);
        patience = dice.nextBoolean() ? 50 : 1 + dice.nextInt(50);
    }

    private int below(int bound) {
        return dice.nextInt(bound);
    }

    private boolean rarely() {
        return below(60) == 0;
    }

    private int wild() {
        int[] numbers = {-1, -2, 81, 80, 79, 10, 3, 4, 100, -100, 1001, -1001, 51, 16, Integer.MAX_VALUE,
            Integer.MIN_VALUE, dice.nextInt()};
        return numbers[below(numbers.length)];
    }

    private int within(int least, int greatest) {
        return rarely() ? wild() : least + below(greatest - least + 1);
    }

    private int session() {
        int opened = model.visitors.size();
        if (opened == 0 || rarely()) {
            return wild();
        }
        for (int i = 0; i < 5; i++) {
            int session = below(opened);
            if (!model.visitors.get(session).ended) {
                return session;
            }
        }
        return below(opened);
    }

    private int node() {
        int made = model.latest().made;
        int node = below(made);
        if (below(3) == 0) {
            node = Math.max(0, made - 1 - below(4));
        }
        for (int i = 0; i < 3 && !model.latest().containsKey(node); i++) {
            node = below(made);
        }
        return rarely() ? wild() : rarely() ? made + below(3) : node;
    }

    private int parent() {
        for (int i = 0; i < 6; i++) {
            int node = node();
            Model.Node found = model.latest().get(node);
            if (found == null || found.kind == Leasehall.PLAIN || found.kind == Leasehall.CONTAINER) {
                return node;
            }
        }
        return node();
    }

    private int version(int node) {
        Model.Node found = model.latest().get(node);
        return below(3) != 0 ? Leasehall.ANY : found != null && below(4) != 0 ? found.ofValue : within(-2, 4);
    }

    private int change() {
        int last = model.changes();
        return rarely() ? wild() : last - Math.min(last, below(3) == 0 ? below(1 + last) : below(12));
    }

    private int place() {
        return rarely() ? wild() : below(6);
    }

    private int set15() {
        return rarely() ? wild() : below(3) == 0 ? below(16) : 15;
    }

    private int call() {
        int sum = 0;
        for (int each : often) {
            sum += each;
        }
        int left = below(sum);
        int call = 0;
        while (left >= often[call]) {
            left -= often[call];
            call++;
        }
        if (call == 9 && model.latest().made > most && below(3) != 0) {
            return 11;
        }
        return call;
    }

    private int[] arguments(String call) {
        switch (call) {
            case "open": return new int[] {within(0, 3), within(0, 2), rarely() ? wild() : patience};
            case "close": case "ping": case "sync": case "gather": case "done": case "hear":
                return new int[] {session()};
            case "move": return new int[] {session(), within(0, 2)};
            case "follow": return new int[] {within(0, 2), below(4) == 0 ? within(1, 20) : within(1, 3)};
            case "pass": return new int[] {rarely() ? within(1, 50) : within(1, 6)};
            case "lease": return new int[] {within(1, 50)};
            case "renew": return new int[] {lease()};
            case "make": return new int[] {session(), parent(), within(0, below(2) == 0 ? 99 : 3), below(2),
                within(-3, 3), below(2) == 0 ? 0 : within(0, 3), lease()};
            case "set": { int node = node(); return new int[] {session(), node, within(-1000, 1000), version(node)}; }
            case "delete": case "check": { int node = node(); return new int[] {session(), node, version(node)}; }
            case "rights": return new int[] {session(), node(), set15(), set15(), below(2)};
            case "answer": return new int[] {session(), place()};
            case "lose": return new int[] {below(2)};
            case "quota": return new int[] {node(), below(2) == 0 ? 80 : within(0, 20)};
            case "read": return new int[] {session(), node(), within(0, 9)};
            case "child": return new int[] {session(), node(), place()};
            case "watch": return new int[] {session(), node(), within(0, 2)};
            case "want": return new int[] {session(), parent(), below(2)};
            case "has": case "giveUp": case "takeFirst": return new int[] {session(), lock()};
            case "believers": return new int[] {lock()};
            case "isOpen": return new int[] {session(), node(), within(1, 4)};
            case "store": return new int[] {within(0, 40), dice.nextInt()};
            case "valueAt": return new int[] {node(), change()};
            case "changedAt": return new int[] {node(), change(), place()};
            case "compact": return new int[] {below(3) == 0 ? change() : Math.max(0, change() - 10)};
            default: return new int[0];
        }
    }

    private int lease() {
        return rarely() || model.leases.isEmpty() ? wild() : below(model.leases.size());
    }

    /** The parent of a node of a session, where there is one. */
    private int lock() {
        for (int i = 0; i < 8; i++) {
            Model.Node found = model.latest().get(node());
            if (found != null && found.kind == Leasehall.OF_SESSION) {
                return found.parent;
            }
        }
        return node();
    }

    private static int number(boolean is) {
        return is ? 1 : 0;
    }

    private static int answerOf(House house, String call, int[] a) {
        switch (call) {
            case "open": return house.open(a[0], a[1], a[2]);
            case "close": return house.close(a[0]);
            case "ping": return house.ping(a[0]);
            case "move": return number(house.move(a[0], a[1]));
            case "sync": return house.sync(a[0]);
            case "follow": return house.follow(a[0], a[1]);
            case "pass": return house.pass(a[0]);
            case "lease": return house.lease(a[0]);
            case "renew": return house.renew(a[0]);
            case "make": return house.make(a[0], a[1], a[2], a[3] == 1, a[4], a[5], a[6]);
            case "set": return house.set(a[0], a[1], a[2], a[3]);
            case "delete": return house.delete(a[0], a[1], a[2]);
            case "rights": return house.rights(a[0], a[1], a[2], a[3], a[4] == 1);
            case "check": return house.check(a[0], a[1], a[2]);
            case "gather": house.gather(a[0]); return 0;
            case "done": return house.done(a[0]);
            case "answer": return house.answer(a[0], a[1]);
            case "lose": house.lose(a[0] == 1); return 0;
            case "quota": return house.quota(a[0], a[1]);
            default: return restOf(house, call, a);
        }
    }

    private static int restOf(House house, String call, int[] a) {
        switch (call) {
            case "read": return house.read(a[0], a[1], a[2]);
            case "child": return house.child(a[0], a[1], a[2]);
            case "watch": return house.watch(a[0], a[1], a[2]);
            case "hear": return house.hear(a[0]);
            case "want": return house.want(a[0], a[1], a[2] == 1);
            case "has": return house.has(a[0], a[1]);
            case "giveUp": return house.giveUp(a[0], a[1]);
            case "believers": return house.believers(a[0]);
            case "isOpen": return number(house.isOpen(a[0], a[1], a[2]));
            case "takeFirst": return house.takeFirst(a[0], a[1]);
            case "store": return number(house.store(a[0], a[1]));
            case "stored": return house.stored();
            case "valueAt": return house.valueAt(a[0], a[1]);
            case "changedAt": return house.changedAt(a[0], a[1], a[2]);
            case "compact": return house.compact(a[0]);
            case "snapshot": return house.snapshot();
            case "restore": return house.restore();
            case "changes": return house.changes();
            default: throw new UnsupportedOperationException(call);
        }
    }

    /** The answer, or, beyond all answers, a number for the exception. */
    private static long outcome(House house, String call, int[] arguments) {
        try {
            return answerOf(house, call, arguments);
        } catch (RuntimeException e) {
            Class<?>[] kinds = {IndexOutOfBoundsException.class, IllegalArgumentException.class,
                IllegalStateException.class};
            long kind = 1 + Arrays.asList(kinds).indexOf(e.getClass());
            if (kind == 0) {
                e.printStackTrace(System.out);
            }
            return kind * (1L << 40) + (kind == 0 ? 1L << 50 : 0);
        }
    }

    private boolean agrees(String call, int[] arguments) {
        long due = outcome(model, call, arguments);
        long got = outcome(real, call, arguments);
        told.append(call).append(Arrays.toString(arguments)).append(" => ").append(due).append('\n');
        if (due != got) {
            System.out.println(told + "  got " + got);
        }
        return due == got;
    }

    private boolean runs() {
        for (int i = 0; i < CALLS; i++) {
            String call = NAMES[i < 3 ? 0 : call()];
            if (!agrees(call, arguments(call))) {
                return false;
            }
        }
        return true;
    }

    public static void main(String[] args) {
        int runs = args.length > 1 ? Integer.parseInt(args[1]) : 1500;
        long first = args.length > 2 ? Long.parseLong(args[2]) : 0;
        for (int run = 0; run < runs; run++) {
            boolean agrees = new ModelTest(first + run).runs();
            Check.is("run " + (first + run) + " agrees with the model", true, agrees);
            if (!agrees) {
                break;
            }
        }
        Check.end("runs of " + CALLS + " calls, " + runs);
    }
}
