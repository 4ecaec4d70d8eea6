/** Compares answers with those that are due, and keeps count of the wrong ones. */
final class Check {
    interface Call {
        void run();
    }

    private static int wrong = 0;
    private static String subject = "";

    static {
        // A test that ends in the middle says of what it was one, too.
        Thread.setDefaultUncaughtExceptionHandler((thread, e) -> {
            complain("the test could not go on: " + e);
            e.printStackTrace(System.out);
            System.exit(1);
        });
    }

    private Check() {
    }

    /** Names what the following calls are a test of; "" for nothing of its own. */
    static void about(String what) {
        subject = what;
    }

    static void due(String call, long got, long want) {
        if (got != want) {
            complain(call + " answered " + got + ", due is " + want);
        }
    }

    static void due(String call, double got, double want) {
        if (got != want) {
            complain(call + " answered " + got + ", due is " + want);
        }
    }

    static void due(String call, String got, String want) {
        if (!got.equals(want)) {
            complain(call + " answered " + got + ", due is " + want);
        }
    }

    static void due(String call, boolean holds) {
        if (!holds) {
            complain(call + " does not hold");
        }
    }

    /** A throw statement of the class itself threw this, not the Java machine or its library. */
    static boolean thrownByWill(RuntimeException e) {
        StackTraceElement[] trace = e.getStackTrace();
        return trace.length > 0 && trace[0].getClassName().equals("CopyHouse")
                && !(e instanceof ArrayIndexOutOfBoundsException);
    }

    /** The call throws this very exception by will, and the object is the same as ahead of it. */
    static void refused(CopyHouse x, String call, Class<? extends RuntimeException> want, Call made) {
        long ahead = x.digest();
        String got = "nothing";
        try {
            made.run();
        } catch (RuntimeException e) {
            got = e.getClass().getName();
            due(call + " throws by a throw statement", thrownByWill(e));
        }
        due(call + " throws, which", got, want.getName());
        due(call + " throws; the digest behind it", x.digest(), ahead);
    }

    static void noPlace(CopyHouse x, String call, Call made) {
        refused(x, call, IndexOutOfBoundsException.class, made);
    }

    static void badArgument(CopyHouse x, String call, Call made) {
        refused(x, call, IllegalArgumentException.class, made);
    }

    static void badState(CopyHouse x, String call, Call made) {
        refused(x, call, IllegalStateException.class, made);
    }

    static void complain(String text) {
        wrong++;
        if (wrong <= 40) {
            System.out.println(subject.isEmpty() ? text : subject + ": " + text);
        }
    }

    static boolean anyWrong() {
        return wrong != 0;
    }

    /** Ends the test's program. */
    static void end() {
        System.out.println(wrong == 0 ? "all answers are as due" : wrong + " answers are not as due");
        if (wrong != 0) {
            System.exit(1);
        }
    }
}
