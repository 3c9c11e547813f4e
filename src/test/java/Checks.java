/** Compares answers with those that are due, prints the wrong ones, and ends the test. */
final class Checks {
    private static final int MOST_SHOWN = 20;

    private final String test;
    private String part = "";
    private long made = 0;
    private long wrong = 0;

    Checks(String test) {
        this.test = test;
    }

    /** What is checked from here on, told with each wrong answer. */
    void part(String name) {
        part = name;
    }

    void due(String call, long got, long want) {
        made++;
        if (got != want) {
            tellWrong(call + " answered " + got + ", due is " + want);
        }
    }

    void due(String call, boolean got, boolean want) {
        made++;
        if (got != want) {
            tellWrong(call + " answered " + got + ", due is " + want);
        }
    }

    void due(String call, String got, String want) {
        made++;
        if (!got.equals(want)) {
            tellWrong(call + ": " + got + ", but due is: " + want);
        }
    }

    boolean anyWrong() {
        return wrong > 0;
    }

    /** A test that has checked nothing counts as failed. */
    void end() {
        System.out.println(test + ": " + made + " answers checked, " + wrong + " wrong");
        if (wrong > 0 || made == 0) {
            System.exit(1);
        }
    }

    private void tellWrong(String what) {
        wrong++;
        if (wrong <= MOST_SHOWN) {
            System.out.println(test + ", " + part + ": " + what);
        }
    }
}
