/**
 * A SecretKeeper on the bench: every call goes through here, so that it is counted against the 512
 * calls that an object is made for, and so that a wrong answer is told with the call's own words.
 */
final class Bench {
    static final int MIN = Integer.MIN_VALUE;
    static final int MAX = Integer.MAX_VALUE;
    static final int BAD = -1;
    static final int FULL = -2;
    static final int UNSAFE = -3;
    static final int OK = 0;
    static final int MOST_CALLS = 512;

    private final Checks checks;
    private SecretKeeper keeper = new SecretKeeper();
    private int calls = 0;
    private String last = "";

    Bench(Checks checks) {
        this.checks = checks;
    }

    /** From here on a sentence of the document is tested, on a new object. */
    void sentence(String words) {
        checks.part(words);
        fresh();
    }

    void fresh() {
        keeper = new SecretKeeper();
        calls = 0;
    }

    int callsLeft() {
        return MOST_CALLS - calls;
    }

    String last() {
        return last;
    }

    private void count(String call) {
        calls++;
        last = call;
        if (calls > MOST_CALLS) {
            throw new IllegalStateException("a test makes more than 512 calls: " + call);
        }
    }

    /** Compares the answer of the call that was made last. */
    void due(int want, int got) {
        checks.due(last, got, want);
    }

    void due(boolean want, boolean got) {
        checks.due(last, got, want);
    }

    int express(int kind, int x, int y, int z) {
        count("express(" + kind + ", " + x + ", " + y + ", " + z + ")");
        return keeper.express(kind, x, y, z);
    }

    int state(int kind, int x, int y, int z) {
        count("state(" + kind + ", " + x + ", " + y + ", " + z + ")");
        return keeper.state(kind, x, y, z);
    }

    boolean label(int v, boolean secret) {
        count("label(" + v + ", " + secret + ")");
        return keeper.label(v, secret);
    }

    boolean secret(int e) {
        count("secret(" + e + ")");
        return keeper.secret(e);
    }

    boolean safe(int s) {
        count("safe(" + s + ")");
        return keeper.safe(s);
    }

    int run(int s) {
        count("run(" + s + ")");
        return keeper.run(s);
    }

    int leaks() {
        count("leaks()");
        return keeper.leaks();
    }

    int leak(int k) {
        count("leak(" + k + ")");
        return keeper.leak(k);
    }

    int printed() {
        count("printed()");
        return keeper.printed();
    }

    int output(int k) {
        count("output(" + k + ")");
        return keeper.output(k);
    }

    int variable(int v) {
        count("variable(" + v + ")");
        return keeper.variable(v);
    }

    boolean setVariable(int v, int value) {
        count("setVariable(" + v + ", " + value + ")");
        return keeper.setVariable(v, value);
    }

    int element(int array, int i) {
        count("element(" + array + ", " + i + ")");
        return keeper.element(array, i);
    }

    boolean setElement(int array, int i, int value) {
        count("setElement(" + array + ", " + i + ", " + value + ")");
        return keeper.setElement(array, i, value);
    }

    boolean level(int k) {
        count("level(" + k + ")");
        return keeper.level(k);
    }

    int number(int value) {
        return express(0, value, 0, 0);
    }

    int ofVariable(int v) {
        return express(1, v, 0, 0);
    }

    int reading(int array, int at) {
        return express(2, array, at, 0);
    }

    int print(int e) {
        return state(6, e, 0, 0);
    }

    /** Expressions 0 to 29 of a new object, number e with the weight e + 1. */
    void chain() {
        int e = number(0);
        for (int weight = 2; weight <= 30; weight++) {
            e = express(13, e, 0, 0);
        }
    }

    /** Runs a statement and looks at all that it leaked. */
    void dueLeaks(int s, int... want) {
        due(OK, run(s));
        due(want.length, leaks());
        for (int k = 0; k < want.length; k++) {
            due(want[k], leak(k));
        }
        due(BAD, leak(want.length));
    }

    /** Runs a statement and looks at all that it printed. */
    void dueOutput(int s, int... want) {
        due(OK, run(s));
        due(want.length, printed());
        for (int k = 0; k < want.length; k++) {
            due(want[k], output(k));
        }
        due(0, output(want.length));
    }

    /** Prints an expression and looks at the value. */
    void dueValue(int e, int want) {
        int s = print(e);
        due(OK, run(s));
        due(want, output(0));
    }
}
