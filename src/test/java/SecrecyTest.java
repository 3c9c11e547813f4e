/**
 * What the document is for: two objects with the same program and the same public numbers, but
 * other secret ones, leak the same, print the same and end with the same public numbers.
 */
public final class SecrecyTest {
    private static final int PAIRS = 20000;
    private static final Checks CHECKS = new Checks("SecrecyTest");

    private static SecretKeeper one;
    private static SecretKeeper two;
    private static Programs programs;
    private static boolean[] secret;
    private static long runsWithSecrets = 0;

    public static void main(String[] args) {
        for (int seed = 0; seed < PAIRS && !CHECKS.anyWrong(); seed++) {
            CHECKS.part("seed " + seed);
            programs = new Programs(seed);
            one = new SecretKeeper();
            two = new SecretKeeper();
            labelAndFill();
            writeProgram();
            compareRuns(lastSafe());
        }
        CHECKS.part("the random runs reach what they are for");
        CHECKS.due("runs whose secret numbers differ after them", runsWithSecrets > PAIRS / 2, true);
        CHECKS.end();
    }

    private static void labelAndFill() {
        secret = new boolean[10];
        for (int v = 0; v < 10; v++) {
            secret[v] = programs.oneIn(2);
            one.label(v, secret[v]);
            two.label(v, secret[v]);
        }
        for (int v = 0; v < 8; v++) {
            int value = programs.number();
            one.setVariable(v, value);
            two.setVariable(v, secret[v] ? programs.number() : value);
        }
        for (int k = 0; k < 16; k++) {
            int value = programs.number();
            one.setElement(k / 8, k % 8, value);
            two.setElement(k / 8, k % 8, secret[8 + k / 8] ? programs.number() : value);
        }
    }

    private static void writeProgram() {
        int expressions = 0;
        for (int k = 0; k < 50; k++) {
            int[] o = programs.expression(expressions);
            two.express(o[0], o[1], o[2], o[3]);
            expressions = Math.max(expressions, 1 + one.express(o[0], o[1], o[2], o[3]));
        }
        int statements = 0;
        for (int k = 0; k < 50; k++) {
            int[] o = programs.statement(expressions, statements);
            two.state(o[0], o[1], o[2], o[3]);
            statements = Math.max(statements, 1 + one.state(o[0], o[1], o[2], o[3]));
        }
    }

    /** One run a pair, so that no object is used for more than 512 calls; late ones are large. */
    private static int lastSafe() {
        for (int s = 39; s > 0; s--) {
            if (one.safe(s)) {
                return s;
            }
        }
        return 0;
    }

    private static void compareRuns(int s) {
        CHECKS.due("run " + s, one.run(s), two.run(s));
        int leaks = one.leaks();
        CHECKS.due("leaks after " + s, leaks, two.leaks());
        for (int k = 0; k < leaks && k < 200; k++) {
            CHECKS.due("leak " + k + " after " + s, one.leak(k), two.leak(k));
        }
        int printed = one.printed();
        CHECKS.due("printed after " + s, printed, two.printed());
        for (int k = 0; k < printed && k < 20; k++) {
            CHECKS.due("output " + k + " after " + s, one.output(k), two.output(k));
        }
        boolean differ = false;
        for (int v = 0; v < 8; v++) {
            int a = one.variable(v);
            int b = two.variable(v);
            if (!secret[v]) {
                CHECKS.due("variable " + v + " after " + s, a, b);
            }
            differ |= a != b;
        }
        for (int k = 0; k < 16; k++) {
            if (!secret[8 + k / 8]) {
                CHECKS.due("element " + k + " after " + s, one.element(k / 8, k % 8),
                        two.element(k / 8, k % 8));
            }
        }
        runsWithSecrets += differ ? 1 : 0;
    }
}
