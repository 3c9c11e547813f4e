/**
 * The boundary cases of promises 1 and 12 to 16, of the terms on variables and arrays, and of the
 * number of calls, a sentence each.
 */
public final class NumbersEdgesTest {
    private static final int MIN = Bench.MIN;
    private static final int MAX = Bench.MAX;
    private static final int BAD = Bench.BAD;
    private static final int FULL = Bench.FULL;
    private static final int OK = Bench.OK;
    private static final int[] VALUES = {MIN, MIN + 1, -1, 0, 1, MAX - 1, MAX};
    /** Array and i, at least one of them outside. */
    private static final int[][] OUTSIDE = {{-1, 0}, {2, 0}, {-1, 7}, {2, 7}, {MIN, 0}, {MAX, 0},
        {0, -1}, {0, 8}, {0, 15}, {1, -1}, {1, 8}, {1, -8}, {0, MIN}, {0, MAX}, {1, MIN}, {1, MAX},
        {-1, 8}, {-1, 15}, {2, -1}, {2, -8}, {MIN, MIN}, {MAX, MAX}, {MIN, MAX}, {MAX, MIN},
        {1 << 29, 0}, {1 << 29, 7}, {-1 << 29, 0}, {256, 0}, {0, 256}};
    private static final Checks CHECKS = new Checks("NumbersEdgesTest");
    private static final Twins TWINS = new Twins(CHECKS);

    private static final Bench B = new Bench(CHECKS);

    public static void main(String[] args) {
        constants();
        nothingIsThere();
        everythingIsPublicAnd0();
        objectsAreApart();
        eightVariables();
        variableOutside();
        setVariableOutside();
        setVariableAnyInt();
        sixteenElements();
        elementOutside();
        setElementOutside();
        setElementAnyInt();
        outlastRuns();
        levelOutside();
        levelShowsInNoAnswer();
        levelBeforeAnyIs2();
        fiveHundredAndTwelveCalls();
        fullestObjectUpToTheLastCall();
        laterCallsEnd();
        CHECKS.end();
    }

    private static void constants() {
        B.sentence("The public face: the constants");
        CHECKS.due("BAD", SecretKeeper.BAD, -1);
        CHECKS.due("FULL", SecretKeeper.FULL, -2);
        CHECKS.due("UNSAFE", SecretKeeper.UNSAFE, -3);
        CHECKS.due("OK", SecretKeeper.OK, 0);
    }

    private static void nothingIsThere() {
        B.sentence("1: no expressions, no statements");
        for (int k : new int[] {MIN, -1, 0, 1, 39, 40, 49, 50, MAX}) {
            B.due(false, B.secret(k));
            B.due(false, B.safe(k));
            B.due(BAD, B.run(k));
            B.due(BAD, B.leak(k));
            B.due(0, B.output(k));
        }
        for (int kind = 2; kind <= 14; kind++) {
            B.due(BAD, B.express(kind, 0, 0, 0));
        }
        for (int kind = 0; kind <= 6; kind++) {
            B.due(BAD, B.state(kind, 1, 0, -1));
        }
        B.due(0, B.leaks());
        B.due(0, B.printed());
        B.due(0, B.number(0));
        B.due(0, B.print(0));
    }

    private static void everythingIsPublicAnd0() {
        B.sentence("1: everything is public and 0");
        for (int i = 0; i < 8; i++) {
            B.due(0, B.variable(i));
            B.due(0, B.element(0, i));
            B.due(0, B.element(1, i));
        }
        for (int v = 0; v < 8; v++) {
            B.due(v, B.ofVariable(v));
            B.due(false, B.secret(v));
            B.dueValue(v, 0);
        }
        for (int i = 0; i < 8; i++) {
            int at = B.number(i);
            int first = B.reading(0, at);
            int second = B.reading(1, at);
            B.due(false, B.secret(first));
            B.due(false, B.secret(second));
            B.dueValue(first, 0);
            B.dueValue(second, 0);
        }
    }

    private static void objectsAreApart() {
        B.sentence("1: a new object has nothing of another one");
        Bench other = new Bench(CHECKS);
        Twins.fullOfExpressions(other);
        for (int v = 0; v < 10; v++) {
            other.label(v, true);
        }
        B.due(0, B.variable(0));
        B.due(0, B.element(1, 7));
        B.due(0, B.leaks());
        B.due(0, B.printed());
        B.due(0, B.ofVariable(1));
        B.due(false, B.secret(0));
        B.due(0, B.print(0));
        B.due(true, B.safe(0));
        B.due(OK, B.run(0));
        B.due(0, B.output(0));
        other.due(101, other.variable(1));
    }

    private static void eightVariables() {
        B.sentence("Terms: 8 variables, 0 to 7, each by itself");
        for (int v = 0; v < 8; v++) {
            B.due(true, B.setVariable(v, v + 1));
            for (int each = 0; each < 8; each++) {
                B.due(each <= v ? each + 1 : 0, B.variable(each));
            }
        }
        for (int i = 0; i < 8; i++) {
            B.due(0, B.element(0, i));
            B.due(0, B.element(1, i));
        }
    }

    private static void variableOutside() {
        B.sentence("12: 0 for v outside 0..7");
        for (int v = 0; v < 8; v++) {
            B.setVariable(v, 9);
            B.setElement(0, v, 9);
            B.setElement(1, v, 9);
        }
        for (int wrong : new int[] {-1, 8, 9, -8, 16, MIN, MIN + 1, MAX, MAX - 1, 256, 1 << 16}) {
            B.due(0, B.variable(wrong));
        }
        B.due(9, B.variable(0));
        B.due(9, B.variable(7));
    }

    private static void setVariableOutside() {
        B.sentence("13: v outside 0..7: refused, answers false");
        for (int wrong : new int[] {-1, 8, 9, -8, 16, MIN, MIN + 1, MAX, MAX - 1, 256, 1 << 16}) {
            for (int value : new int[] {MIN, 0, 7, MAX}) {
                TWINS.refused(Twins::ordinary, b -> b.setVariable(wrong, value));
            }
        }
        B.due(true, B.setVariable(0, 0));
        B.due(true, B.setVariable(7, 0));
    }

    private static void setVariableAnyInt() {
        B.sentence("13: sets a variable, to the smallest and the greatest int too, secret or not");
        for (boolean secret : new boolean[] {false, true}) {
            for (int v : new int[] {0, 7}) {
                B.label(v, secret);
                for (int value : VALUES) {
                    B.due(true, B.setVariable(v, value));
                    B.due(value, B.variable(v));
                }
            }
        }
    }

    private static void sixteenElements() {
        B.sentence("Terms: 2 arrays, 0 and 1, of 8 elements each, 0 to 7, each by itself");
        for (int place = 0; place < 16; place++) {
            B.due(true, B.setElement(place / 8, place % 8, place + 1));
            for (int each = 0; each < 16; each++) {
                B.due(each <= place ? each + 1 : 0, B.element(each / 8, each % 8));
            }
        }
        for (int v = 0; v < 8; v++) {
            B.due(0, B.variable(v));
        }
    }

    private static void elementOutside() {
        B.sentence("14: 0 for array outside 0..1 or i outside 0..7");
        for (int i = 0; i < 8; i++) {
            B.setElement(0, i, 9);
            B.setElement(1, i, 9);
            B.setVariable(i, 9);
        }
        for (int[] wrong : OUTSIDE) {
            B.due(0, B.element(wrong[0], wrong[1]));
        }
        B.due(9, B.element(0, 0));
        B.due(9, B.element(0, 7));
        B.due(9, B.element(1, 0));
        B.due(9, B.element(1, 7));
    }

    private static void setElementOutside() {
        B.sentence("15: array outside 0..1 or i outside 0..7: refused, answers false");
        for (int[] wrong : OUTSIDE) {
            for (int value : new int[] {MIN, 0, 7, MAX}) {
                TWINS.refused(Twins::ordinary, b -> b.setElement(wrong[0], wrong[1], value));
            }
        }
        B.due(true, B.setElement(0, 0, 0));
        B.due(true, B.setElement(0, 7, 0));
        B.due(true, B.setElement(1, 0, 0));
        B.due(true, B.setElement(1, 7, 0));
    }

    private static void setElementAnyInt() {
        B.sentence("15: sets an element, to the smallest and the greatest int too, secret or not");
        for (boolean secret : new boolean[] {false, true}) {
            for (int array = 0; array < 2; array++) {
                B.label(8 + array, secret);
                for (int i : new int[] {0, 7}) {
                    for (int value : VALUES) {
                        B.due(true, B.setElement(array, i, value));
                        B.due(value, B.element(array, i));
                    }
                }
            }
        }
    }

    private static void outlastRuns() {
        B.sentence("Terms: all are ints and outlast runs");
        for (int v = 0; v < 8; v++) {
            B.setVariable(v, MIN + v);
            B.setElement(0, v, MAX - v);
            B.setElement(1, v, ~v);
        }
        int e = B.ofVariable(7);
        int fine = B.state(4, 6, B.print(B.reading(1, e)), 0);
        B.due(OK, B.run(fine));
        B.due(OK, B.run(fine));
        B.due(BAD, B.run(9));
        B.label(7, true);
        B.due(Bench.UNSAFE, B.run(fine));
        for (int v = 0; v < 8; v++) {
            B.due(MIN + v, B.variable(v));
            B.due(MAX - v, B.element(0, v));
            B.due(~v, B.element(1, v));
        }
    }

    private static void levelOutside() {
        B.sentence("16: k outside 0..2: refused, answers false. Else true");
        for (int k = 0; k <= 2; k++) {
            B.due(true, B.level(k));
        }
        for (int wrong : new int[] {-1, 3, 4, -2, MIN, MIN + 1, MAX, MAX - 1, 256, 1 << 16}) {
            B.due(false, B.level(wrong));
            TWINS.refused(Twins::ordinary, b -> b.level(wrong));
            TWINS.refused(Twins::heavyAndDeep, b -> b.level(wrong));
        }
        for (int k = 2; k >= 0; k--) {
            B.due(true, B.level(k));
        }
    }

    private static void levelShowsInNoAnswer() {
        B.sentence("16: it shows in no answer");
        for (int k = 0; k <= 2; k++) {
            int level = k;
            TWINS.refused(Twins::ordinary, 1, b -> b.level(level) ? 1 : 0);
            TWINS.refused(Twins::heavyAndDeep, 1, b -> b.level(level) ? 1 : 0);
            TWINS.refused(Twins::fullOfStatements, 1, b -> b.level(level) ? 1 : 0);
        }
        B.sentence("16: in no answer, set before anything is made, or between two runs");
        for (int first = 0; first <= 2; first++) {
            for (int second = 0; second <= 2; second++) {
                B.fresh();
                B.level(first);
                B.label(0, true);
                int x = B.ofVariable(0);
                int read = B.reading(0, B.number(2));
                int same = B.express(3, B.express(5, read, read, 0), B.express(5, read, read, 0), 0);
                int s = B.state(3, x, B.state(0, 0, same, 0), -1);
                B.setElement(0, 2, 3);
                B.setVariable(0, 1);
                B.dueLeaks(s, 18, 18, 18, 18);
                B.due(18, B.variable(0));
                B.level(second);
                B.dueLeaks(s, 18, 18, 18, 18);
                B.setVariable(0, 0);
                B.dueLeaks(s, 18, 18, 18, 18);
                B.due(0, B.variable(0));
            }
        }
    }

    private static void levelBeforeAnyIs2() {
        B.sentence("1: the level is 2");
        TWINS.refused(b -> { }, 1, b -> b.level(2) ? 1 : 0);
        TWINS.refused(Twins::ordinary, 1, b -> b.level(2) ? 1 : 0);
    }

    private static void fiveHundredAndTwelveCalls() {
        B.sentence("What it is: at most 512 calls, the last one counts like the first");
        for (int k = 1; k <= 511; k++) {
            B.setVariable(k & 7, k);
        }
        B.due(511, B.variable(7));
        B.fresh();
        for (int k = 1; k <= 511; k++) {
            B.due(BAD, B.express(3, 0, 0, 0));
        }
        B.due(0, B.number(0));
        B.fresh();
        B.due(0, B.ofVariable(3));
        for (int k = 1; k <= 510; k++) {
            B.due(true, B.label(3, (k & 1) == 0));
        }
        B.due(true, B.secret(0));
        B.fresh();
        B.due(0, B.ofVariable(0));
        B.due(0, B.state(0, 0, B.express(3, 0, B.number(1), 0), 0));
        for (int k = 1; k <= 507; k++) {
            B.due(OK, B.run(0));
        }
        B.due(507, B.variable(0));
        CHECKS.due("calls that were left", B.callsLeft(), 0);
    }

    private static void fullestObjectUpToTheLastCall() {
        B.sentence("What it is: 512 calls with all that there can be, of the longest runs");
        int e = B.number(0);
        for (int k = 0; k < 25; k++) {
            e = B.reading(0, e);
        }
        for (int k = 26; k < 50; k++) {
            B.due(k, B.number(k));
        }
        int s = B.print(e);
        for (int k = 0; k < 3; k++) {
            s = B.state(4, 6, s, 0);
        }
        for (int k = 4; k < 40; k++) {
            B.due(k, B.print(k));
        }
        B.due(FULL, B.number(0));
        B.due(FULL, B.print(0));
        while (B.callsLeft() > 2) {
            B.due(OK, B.run(s));
        }
        B.due(5400, B.leaks());
        B.due(216, B.printed());
        CHECKS.due("calls that were left", B.callsLeft(), 0);
    }

    /** What later calls answer is free, but LANGUAGE.md's rule 7 lets none of them throw. */
    private static void laterCallsEnd() {
        B.sentence("What it is: what later calls answer is free, but they answer");
        SecretKeeper x = new SecretKeeper();
        int answers = 0;
        for (int k = 0; k < 3000; k++) {
            int e = x.express(3, x.express(0, k, 0, 0), 0, 0);
            x.express(2, 1, e, 0);
            int s = x.state(4, 6, x.state(1, 1, e, e), 0);
            x.state(2, s, s, 0);
            x.label(k % 11, (k & 1) == 0);
            x.secret(k);
            x.safe(k);
            x.run(k % 41);
            x.leak(x.leaks());
            x.output(x.printed());
            x.setVariable(k % 9, k);
            x.setElement(k % 3, k % 9, k);
            x.variable(k);
            x.element(k % 3, k);
            x.level(k);
            answers++;
        }
        CHECKS.due("rounds of calls that ended", answers, 3000);
    }
}
