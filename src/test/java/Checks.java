/** Counts the answers of a test that are not the ones that are due, and prints them. */
final class Checks {
    private static final long MOST_MILLISECONDS = 5 * 60 * 1000;

    private int wrong = 0;

    // A call that fails to end must fail its test, not hold it up for ever.
    Checks() {
        Thread watch = new Thread(Checks::endLateTest);
        watch.setDaemon(true);
        watch.start();
    }

    void due(String call, long got, long want) {
        if (got != want) {
            wrong++;
            System.out.println(call + " answered " + got + ", due is " + want);
        }
    }

    void due(String what, Object got, Object want) {
        if (!want.equals(got)) {
            wrong++;
            System.out.println(what + " is " + got + ", due is " + want);
        }
    }

    boolean allRight() {
        return wrong == 0;
    }

    void end() {
        System.out.println(wrong == 0 ? "all answers are as due" : wrong + " answers are not as due");
        if (wrong != 0) {
            System.exit(1);
        }
    }

    private static void endLateTest() {
        try {
            Thread.sleep(MOST_MILLISECONDS);
        } catch (InterruptedException e) {
            return;
        }
        System.out.println("a call failed to end");
        Runtime.getRuntime().halt(1);
    }
}
