/** Counts tests, and tells each answer that is not the one that is due. */
final class Check {
    interface Body {
        void run();
    }

    private static int passed = 0;
    private static int failed = 0;
    private static boolean good = true;

    private Check() {
    }

    static void test(String name, Body body) {
        good = true;
        try {
            body.run();
        } catch (RuntimeException e) {
            wrong("threw " + e);
        }
        if (good) {
            passed++;
        } else {
            failed++;
            System.out.println("FAILED " + name);
        }
    }

    static void wrong(String what) {
        good = false;
        System.out.println("  " + what);
    }

    static void isTrue(String what, boolean holds) {
        if (!holds) {
            wrong(what + " does not hold");
        }
    }

    static void same(String what, long got, long due) {
        if (got != due) {
            wrong(what + " answered " + got + ", due is " + due);
        }
    }

    static void same(String what, double got, double due) {
        if (got != due) {
            wrong(what + " answered " + got + ", due is " + due);
        }
    }

    /** The call has to throw just this exception, by a throw of the class itself, and to change nothing. */
    static void refuses(WaltzHall hall, Class<? extends RuntimeException> due, Body call) {
        long before = hall.digest();
        throwsJust("a call", due, call);
        same("digest behind a refused call", hall.digest(), before);
    }

    static void throwsJust(String what, Class<? extends RuntimeException> due, Body call) {
        try {
            call.run();
            wrong(what + " threw nothing, due is " + due.getName());
        } catch (RuntimeException e) {
            if (e.getClass() != due) {
                wrong(what + " threw " + e + ", due is " + due.getName());
            } else if (!isThrownByTheClass(e)) {
                wrong(what + ": the machine or the library threw " + e);
            }
        }
    }

    static boolean isThrownByTheClass(RuntimeException e) {
        StackTraceElement[] trace = e.getStackTrace();
        return trace.length > 0 && trace[0].getClassName().startsWith("WaltzHall");
    }

    static void index(WaltzHall hall, Body call) {
        refuses(hall, IndexOutOfBoundsException.class, call);
    }

    static void argument(WaltzHall hall, Body call) {
        refuses(hall, IllegalArgumentException.class, call);
    }

    static void state(WaltzHall hall, Body call) {
        refuses(hall, IllegalStateException.class, call);
    }

    /** Answers whether all passed. */
    static boolean summary() {
        System.out.println(passed + " passed, " + failed + " failed");
        return failed == 0 && passed > 0;
    }
}
