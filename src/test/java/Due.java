/** Compares answers with those that are due, and ends a test. */
final class Due {
    private static final int MOST_SHOWN = 50;
    private static final long LONGEST_MILLIS = 300_000;
    private static int wrong = 0;
    private static int seen = 0;

    static {
        Thread watch = new Thread(Due::endLate);
        watch.setDaemon(true);
        watch.start();
    }

    private Due() {
    }

    /** A call that never ends is a fault as well. */
    private static void endLate() {
        try {
            Thread.sleep(LONGEST_MILLIS);
            System.out.println("the test did not end in time");
            Runtime.getRuntime().halt(1);
        } catch (InterruptedException stopped) {
            Thread.currentThread().interrupt();
        }
    }

    static void is(String call, long got, long want) {
        seen++;
        if (got != want) {
            wrong++;
            if (wrong <= MOST_SHOWN) {
                System.out.println(call + " answered " + got + ", due is " + want);
            }
        }
    }

    static boolean anyWrong() {
        return wrong != 0;
    }

    static void end() {
        System.out.println(seen + " answers, " + wrong + " not as due");
        if (wrong != 0 || seen == 0) {
            System.exit(1);
        }
    }
}
