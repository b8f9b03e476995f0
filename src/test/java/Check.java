import java.util.function.Supplier;

/** What the tests share: they compare answers, and look at what is thrown and that it changes nothing. */
final class Check {
    private static final int LONGEST_SECONDS = 300;
    private static int wrong = 0;
    private static int made = 0;

    static {
        guardTheEnd();
    }

    private Check() {
    }

    /** A call that does not end has to be a failure too, and not hold up the other tests. */
    private static void guardTheEnd() {
        Thread guard = new Thread(() -> {
            try {
                Thread.sleep(1000L * LONGEST_SECONDS);
            } catch (InterruptedException e) {
                return;
            }
            System.out.println("no end within " + LONGEST_SECONDS + " seconds");
            Runtime.getRuntime().halt(1);
        });
        guard.setDaemon(true);
        guard.start();
    }

    interface Call {
        void run();
    }

    interface CallWith {
        void run(LastMile x, int value);
    }

    static void due(String what, long got, long want) {
        made++;
        if (got != want) {
            fail(what + " answered " + got + ", due is " + want);
        }
    }

    static void due(String what, double got, double want) {
        made++;
        if (got != want) {
            fail(what + " answered " + got + ", due is " + want);
        }
    }

    static void due(String what, boolean got) {
        made++;
        if (!got) {
            fail(what);
        }
    }

    /** The call throws exactly this exception, from a throw statement of the class, and changes nothing. */
    static void refused(String what, LastMile x, Class<? extends RuntimeException> want, Call call) {
        made++;
        long before = x.digest();
        try {
            call.run();
            fail(what + " answered, due is " + want.getName());
        } catch (RuntimeException e) {
            if (e.getClass() != want) {
                fail(what + " threw " + e + ", due is " + want.getName());
            } else if (!e.getStackTrace()[0].getClassName().startsWith("LastMile")) {
                fail(what + " did not throw by itself: " + e);
            }
        }
        if (x.digest() != before) {
            fail(what + " threw, but changed something");
        }
    }

    static void index(String what, LastMile x, Call call) {
        refused(what, x, IndexOutOfBoundsException.class, call);
    }

    static void argument(String what, LastMile x, Call call) {
        refused(what, x, IllegalArgumentException.class, call);
    }

    static void state(String what, LastMile x, Call call) {
        refused(what, x, IllegalStateException.class, call);
    }

    static void allowed(String what, Call call) {
        made++;
        try {
            call.run();
        } catch (RuntimeException e) {
            fail(what + " threw " + e);
        }
    }

    /** On a new object each: the least and the most are allowed; those beside them, and far ones, are refused. */
    static void range(String what, int least, int most, Class<? extends RuntimeException> want,
            Supplier<LastMile> maker, CallWith call) {
        for (int value : new int[] {least, most}) {
            LastMile x = maker.get();
            allowed(what + " " + value, () -> call.run(x, value));
        }
        for (int value : new int[] {Integer.MIN_VALUE, least - 1, most + 1, Integer.MAX_VALUE}) {
            LastMile x = maker.get();
            refused(what + " " + value, x, want, () -> call.run(x, value));
        }
    }

    static void fail(String what) {
        wrong++;
        if (wrong <= 40) {
            System.out.println(what);
        }
    }

    /** Ends the program with 1 if something was wrong. */
    static void end() {
        System.out.println(made + " checks, " + wrong + " wrong");
        System.exit(wrong == 0 ? 0 : 1);
    }
}
