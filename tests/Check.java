/** Counts what a test finds wrong, and says it. */
final class Check {
    static final Class<?> RANGE = IndexOutOfBoundsException.class;
    static final Class<?> ARGUMENT = IllegalArgumentException.class;
    static final Class<?> STATE = IllegalStateException.class;

    private static int looked = 0;
    private static int wrong = 0;

    private Check() {
    }

    static void is(String what, long due, long got) {
        looked++;
        if (due != got) {
            wrong++;
            System.out.println("  " + what + ": due is " + due + ", got " + got);
        }
    }

    static void is(String what, boolean due, boolean got) {
        is(what, due ? 1 : 0, got ? 1 : 0);
    }

    /** The class has to throw the very exception that is due, and by itself: neither the machine nor the library. */
    static void fails(String what, Class<?> due, Runnable call) {
        looked++;
        RuntimeException got = null;
        try {
            call.run();
        } catch (RuntimeException e) {
            got = e;
        }
        if ((got == null ? null : got.getClass()) != due || got != null && !isOwn(got)) {
            wrong++;
            System.out.println("  " + what + ": due is " + due + ", got " + got);
        }
    }

    static boolean isOwn(Throwable thrown) {
        StackTraceElement[] trace = thrown.getStackTrace();
        return trace.length > 0 && trace[0].getClassName().startsWith("Leasehall");
    }

    static void hears(String what, Leasehall house, int session, int... due) {
        for (int i = 0; i < due.length; i++) {
            is(what + ", told thing " + i, due[i], house.hear(session));
        }
        is(what + ", nothing more is told", Leasehall.NONE, house.hear(session));
    }

    static void end(String name) {
        System.out.println("  " + name + ": " + looked + " looks, " + wrong + " wrong");
        System.exit(wrong == 0 && looked > 0 ? 0 : 1);
    }
}
