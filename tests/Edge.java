import java.util.function.Supplier;

/** Looks at both ends of what is allowed: the last value that is, and the first that is not. */
final class Edge {
    /** A call with one number that is looked at, on a house that is made anew for each. */
    interface Call {
        void on(Leasehall house, int number);
    }

    private static final int[] FAR = {Integer.MIN_VALUE, Integer.MIN_VALUE + 1, Integer.MAX_VALUE - 1, Integer.MAX_VALUE};

    private Edge() {
    }

    static void within(String sentence, Class<?> due, Supplier<Leasehall> fresh, int least, int most, Call call) {
        for (int number : new int[] {least, least + 1, most - 1, most}) {
            if (number >= least && number <= most) {
                fails(sentence, null, fresh, number, call);
            }
        }
        fails(sentence, due, fresh, least - 1, call);
        fails(sentence, due, fresh, most + 1, call);
        for (int number : FAR) {
            fails(sentence, due, fresh, number, call);
        }
    }

    /** Of what has no greatest value. */
    static void atLeast(String sentence, Class<?> due, Supplier<Leasehall> fresh, int least, Call call) {
        for (int number : new int[] {least, least + 1, Integer.MAX_VALUE}) {
            fails(sentence, null, fresh, number, call);
        }
        fails(sentence, due, fresh, least - 1, call);
        fails(sentence, due, fresh, Integer.MIN_VALUE, call);
    }

    static void fails(String sentence, Class<?> due, Supplier<Leasehall> fresh, int number, Call call) {
        Leasehall house = fresh.get();
        Check.fails(sentence + " -- " + number, due, () -> call.on(house, number));
    }
}
