/** Each promise of the document by itself: ordinary inputs, the edges it names, wrong inputs. */
public final class PromisesTest {
    private static final int MIN = Integer.MIN_VALUE;
    private static final int MAX = Integer.MAX_VALUE;
    private static final int BAD = SecretKeeper.BAD;
    private static final int FULL = SecretKeeper.FULL;
    private static final int UNSAFE = SecretKeeper.UNSAFE;
    private static final int OK = SecretKeeper.OK;
    private static final Checks CHECKS = new Checks("PromisesTest");

    private static SecretKeeper x;

    public static void main(String[] args) {
        constants();
        newObject();
        expressKinds();
        expressRefusals();
        expressOrderOfTests();
        expressWeight();
        stateRefusals();
        stateWeight();
        stateNesting();
        stateOrderOfTests();
        label();
        secret();
        safeAssign();
        safeStore();
        safeThen();
        safeIf();
        safeRepeat();
        safeWhile();
        safePrint();
        safeReading();
        run();
        runStatements();
        runSeemingly();
        runWhile();
        leaksInOrder();
        leaksBeyondTheKept();
        outputs();
        variables();
        elements();
        level();
        orderAndLimits();
        CHECKS.end();
    }

    private static void begin(String part) {
        CHECKS.part(part);
        x = new SecretKeeper();
    }

    private static int constant(int value) {
        return x.express(0, value, 0, 0);
    }

    private static int variable(int v) {
        return x.express(1, v, 0, 0);
    }

    private static int reading(int array, int at) {
        return x.express(2, array, at, 0);
    }

    private static void dueLeaks(int... due) {
        CHECKS.due("leaks()", x.leaks(), due.length);
        for (int k = 0; k < due.length; k++) {
            CHECKS.due("leak(" + k + ")", x.leak(k), due[k]);
        }
        CHECKS.due("leak behind the last", x.leak(due.length), BAD);
    }

    private static void dueOutput(int... due) {
        CHECKS.due("printed()", x.printed(), due.length);
        for (int k = 0; k < due.length; k++) {
            CHECKS.due("output(" + k + ")", x.output(k), due[k]);
        }
        CHECKS.due("output behind the last", x.output(due.length), 0);
    }

    private static void dueRun(int s) {
        CHECKS.due("run(" + s + ")", x.run(s), OK);
    }

    private static void dueSafe(String what, int s, boolean due) {
        CHECKS.due("safe of " + what, x.safe(s), due);
    }

    private static void constants() {
        CHECKS.part("constants");
        CHECKS.due("BAD", BAD, -1);
        CHECKS.due("FULL", FULL, -2);
        CHECKS.due("UNSAFE", UNSAFE, -3);
        CHECKS.due("OK", OK, 0);
    }

    private static void newObject() {
        begin("1 a new object");
        for (int k = -1; k < 51; k++) {
            CHECKS.due("secret(" + k + ")", x.secret(k), false);
            CHECKS.due("safe(" + k + ")", x.safe(k), false);
            CHECKS.due("run(" + k + ")", x.run(k), BAD);
            CHECKS.due("leak(" + k + ")", x.leak(k), BAD);
            CHECKS.due("output(" + k + ")", x.output(k), 0);
            CHECKS.due("variable(" + k + ")", x.variable(k), 0);
            CHECKS.due("element(0, " + k + ")", x.element(0, k), 0);
            CHECKS.due("element(1, " + k + ")", x.element(1, k), 0);
        }
        CHECKS.due("leaks()", x.leaks(), 0);
        CHECKS.due("printed()", x.printed(), 0);

        begin("1 a new object, all is public");
        for (int v = 0; v < 8; v++) {
            int e = variable(v);
            CHECKS.due("the first number is 0, then one more each", e, v);
            CHECKS.due("secret variable " + v, x.secret(e), false);
        }
        for (int a = 0; a < 2; a++) {
            int e = reading(a, 0);
            CHECKS.due("secret array " + a, x.secret(e), false);
        }
        CHECKS.due("the first statement", x.state(6, 0, 0, 0), 0);

        begin("1 a new object, objects share nothing");
        SecretKeeper other = new SecretKeeper();
        other.setVariable(0, 5);
        other.setElement(0, 0, 5);
        other.label(0, true);
        other.express(1, 0, 0, 0);
        CHECKS.due("variable(0)", x.variable(0), 0);
        CHECKS.due("element(0, 0)", x.element(0, 0), 0);
        CHECKS.due("express", x.express(1, 0, 0, 0), 0);
        CHECKS.due("secret(0)", x.secret(0), false);
    }

    private static void dueValue(int kind, int a, int b, int due) {
        x = new SecretKeeper();
        int ea = constant(a);
        int eb = constant(b);
        int s = x.state(6, x.express(kind, ea, eb, 99), 0, 0);
        dueRun(s);
        CHECKS.due("kind " + kind + " of " + a + " and " + b, x.output(0), due);
    }

    private static void expressKinds() {
        begin("2 express, kinds");
        int[] some = {0, 1, -1, 2, 7, 8, 31, 32, 33, 63, -31, -32, 70000, MIN, MAX, MIN + 1};
        for (int a : some) {
            for (int b : some) {
                dueValue(3, a, b, a + b);
                dueValue(4, a, b, a - b);
                dueValue(5, a, b, a * b);
                dueValue(6, a, b, a & b);
                dueValue(7, a, b, a | b);
                dueValue(8, a, b, a ^ b);
                dueValue(9, a, b, a << b);
                dueValue(10, a, b, a >>> b);
                dueValue(11, a, b, a < b ? 1 : 0);
                dueValue(12, a, b, a == b ? 1 : 0);
                dueValue(13, a, b, ~a);
            }
        }
        begin("2 express, choosing");
        for (int a : some) {
            x = new SecretKeeper();
            int e = x.express(14, constant(a), constant(20), constant(30));
            dueRun(x.state(6, e, 0, 0));
            dueOutput(a != 0 ? 20 : 30);
        }
        begin("2 express, variables and elements");
        for (int i = -9; i < 18; i++) {
            x = new SecretKeeper();
            for (int k = 0; k < 8; k++) {
                x.setVariable(k, 50 + k);
                x.setElement(0, k, 100 + k);
                x.setElement(1, k, 200 + k);
            }
            int at = constant(i);
            int read0 = x.state(6, reading(0, at), 0, 0);
            int read1 = x.state(6, reading(1, at), 0, 0);
            int readVariable = x.state(6, variable(i & 7), 0, 0);
            dueRun(x.state(2, x.state(2, read0, read1, 0), readVariable, 0));
            dueOutput(100 + (i & 7), 200 + (i & 7), 50 + (i & 7));
        }
    }

    private static void expressRefusals() {
        begin("2 express, refusals");
        for (int kind = 2; kind <= 14; kind++) {
            CHECKS.due("no part is there yet", x.express(kind, 0, 0, 0), BAD);
        }
        int next = 0;
        for (int any : new int[] {0, -1, MIN, MAX}) {
            CHECKS.due("any int", x.express(0, any, MIN, MAX), next++);
        }
        for (int wrong : new int[] {-1, 15, MIN, MAX}) {
            CHECKS.due("kind " + wrong, x.express(wrong, 0, 0, 0), BAD);
        }
        for (int wrong : new int[] {-1, 8, MIN, MAX}) {
            CHECKS.due("variable " + wrong, x.express(1, wrong, 0, 0), BAD);
        }
        CHECKS.due("variable 0", x.express(1, 0, -1, -1), next++);
        CHECKS.due("variable 7", x.express(1, 7, -1, -1), next++);
        for (int wrong : new int[] {-1, 2, MIN, MAX}) {
            CHECKS.due("array " + wrong, x.express(2, wrong, 0, 0), BAD);
        }
        CHECKS.due("array 0", x.express(2, 0, 0, -1), next++);
        CHECKS.due("array 1", x.express(2, 1, 1, 99), next++);
        for (int kind = 2; kind <= 14; kind++) {
            next = expressWrongParts(kind, next);
        }
    }

    private static int expressWrongParts(int kind, int next) {
        boolean hasX = kind != 2;
        boolean hasY = kind != 13;
        boolean hasZ = kind == 14;
        for (int wrong : new int[] {-1, next, MIN, MAX}) {
            if (hasX) {
                CHECKS.due("kind " + kind + ", x " + wrong, x.express(kind, wrong, 0, 0), BAD);
            }
            if (hasY) {
                CHECKS.due("kind " + kind + ", y " + wrong, x.express(kind, 0, wrong, 0), BAD);
            }
            if (hasZ) {
                CHECKS.due("kind " + kind + ", z " + wrong, x.express(kind, 0, 0, wrong), BAD);
            }
        }
        int last = next - 1;
        int due = next;
        if (kind != 2) {
            int got = x.express(kind, 0, hasY ? 1 : MIN, hasZ ? 2 : MAX);
            CHECKS.due("kind " + kind + ", unused operands", got, due);
            due++;
        }
        if (kind == 3) {
            CHECKS.due("kind 3, the last one as a part", x.express(3, last, last, -1), due);
            due++;
        }
        return due;
    }

    private static void expressOrderOfTests() {
        begin("2 express, order of tests");
        for (int k = 0; k < 50; k++) {
            CHECKS.due("express number " + k, constant(k), k);
        }
        CHECKS.due("the 51st", constant(0), FULL);
        CHECKS.due("the 51st, of a wrong kind", x.express(99, 0, 0, 0), FULL);
        CHECKS.due("the 51st, of a wrong part", x.express(3, -1, 0, 0), FULL);
        dueRun(x.state(6, 49, 0, 0));
        dueOutput(49);
        CHECKS.due("label with 50 there", x.label(0, true), true);

        begin("2 express, wrong parts before weight");
        int e = constant(1);
        for (int k = 0; k < 29; k++) {
            e = x.express(13, e, 0, 0);
        }
        CHECKS.due("29 turnings", e, 29);
        CHECKS.due("heavy and wrong", x.express(3, e, 30, 0), BAD);
        CHECKS.due("heavy and wrong", x.express(14, e, e, -1), BAD);
        CHECKS.due("heavy", x.express(3, e, e, 0), FULL);
        CHECKS.due("a refused one is not there", x.secret(30), false);
        CHECKS.due("a refused one takes no number", constant(0), 30);
    }

    private static void expressWeight() {
        begin("2 express, weight");
        int w1 = constant(1);
        int w3 = x.express(3, w1, w1, 0);
        int w7 = x.express(3, w3, w3, 0);
        int w15 = x.express(3, w7, w7, 0);
        int w29 = x.express(3, w15, x.express(13, x.express(14, w1, w7, w3), 0, 0), 0);
        CHECKS.due("15 + 13 + 1", w29, 6);
        int w30 = x.express(13, w29, 0, 0);
        CHECKS.due("30 by a turning", w30, 7);
        CHECKS.due("30 by a reading", reading(0, w29), 8);
        CHECKS.due("31 by a turning", x.express(13, w30, 0, 0), FULL);
        CHECKS.due("31 by a reading", reading(0, w30), FULL);
        CHECKS.due("31 by a sum", x.express(3, w15, w15, 0), FULL);
        CHECKS.due("31 by a sum", x.express(3, w29, w1, 0), FULL);
        CHECKS.due("31 by choosing", x.express(14, w15, w7, w7), 9);
        CHECKS.due("31 by choosing", x.express(14, w15, w7, x.express(13, w7, 0, 0)), FULL);
        CHECKS.due("unused operands weigh nothing", x.express(0, w30, w30, w30), 11);
        CHECKS.due("unused operands weigh nothing", x.express(13, w1, w30, w30), 12);
        CHECKS.due("an int is no part", x.express(3, w1, w1, w30), 13);
    }

    private static void stateRefusals() {
        begin("3 state, refusals");
        for (int kind = 0; kind <= 6; kind++) {
            CHECKS.due("nothing is there yet", x.state(kind, 1, 0, -1), BAD);
        }
        int e = 0;
        CHECKS.due("expression", constant(1), e);
        for (int wrong : new int[] {-1, 7, MIN, MAX}) {
            CHECKS.due("kind " + wrong, x.state(wrong, 0, 0, 0), BAD);
        }
        for (int kind = 2; kind <= 5; kind++) {
            CHECKS.due("no statement is there yet", x.state(kind, 1, 0, -1), BAD);
        }
        CHECKS.due("print", x.state(6, e, MIN, MAX), 0);
        CHECKS.due("assign", x.state(0, 7, e, MIN), 1);
        CHECKS.due("assign", x.state(0, 0, e, MAX), 2);
        CHECKS.due("store", x.state(1, 0, e, e), 3);
        CHECKS.due("store", x.state(1, 1, e, e), 4);
        CHECKS.due("then", x.state(2, 0, 4, MIN), 5);
        CHECKS.due("if", x.state(3, e, 0, -1), 6);
        CHECKS.due("if", x.state(3, e, 0, 6), 7);
        CHECKS.due("repeat once", x.state(4, 1, 0, MIN), 8);
        CHECKS.due("repeat 6 times", x.state(4, 6, 0, MAX), 9);
        CHECKS.due("while", x.state(5, e, 0, MIN), 10);
        dueBadX(0, e, 0, -1, 8, MIN, MAX);
        dueBadX(1, e, e, -1, 2, MIN, MAX);
        dueBadX(2, 0, 0, -1, 11, MIN, MAX);
        dueBadX(3, 0, -1, -1, 1, MIN, MAX);
        dueBadX(4, 0, 0, 0, 7, -1, MIN, MAX);
        dueBadX(5, 0, 0, -1, 1, MIN, MAX);
        dueBadX(6, 0, 0, -1, 1, MIN, MAX);
        for (int wrong : new int[] {-1, 1, MIN, MAX}) {
            CHECKS.due("assign, y " + wrong, x.state(0, 0, wrong, 0), BAD);
            CHECKS.due("store, y " + wrong, x.state(1, 0, wrong, 0), BAD);
            CHECKS.due("store, z " + wrong, x.state(1, 0, 0, wrong), BAD);
        }
        for (int wrong : new int[] {-1, 11, MIN, MAX}) {
            CHECKS.due("then, y " + wrong, x.state(2, 0, wrong, 0), BAD);
            CHECKS.due("if, y " + wrong, x.state(3, 0, wrong, 0), BAD);
            CHECKS.due("repeat, y " + wrong, x.state(4, 1, wrong, 0), BAD);
            CHECKS.due("while, y " + wrong, x.state(5, 0, wrong, 0), BAD);
        }
        for (int wrong : new int[] {-2, 11, MIN, MAX}) {
            CHECKS.due("if, z " + wrong, x.state(3, 0, 0, wrong), BAD);
        }
        CHECKS.due("refused ones take no number", x.state(6, 0, 0, 0), 11);
    }

    private static void dueBadX(int kind, int y, int z, int... wrong) {
        for (int w : wrong) {
            CHECKS.due("kind " + kind + ", x " + w, x.state(kind, w, y, z), BAD);
        }
    }

    /** An expression of the weight that is asked for, one or more. */
    private static int weighing(int weight) {
        int e = constant(0);
        for (int w = 1; w < weight; w++) {
            e = x.express(13, e, 0, 0);
        }
        return e;
    }

    private static void stateWeight() {
        begin("3 state, weight of assign and print");
        int w30 = weighing(30);
        int w29 = w30 - 1;
        CHECKS.due("assign 30", x.state(0, 0, w29, w30), 0);
        CHECKS.due("assign 31", x.state(0, 0, w30, 0), FULL);
        CHECKS.due("print 30", x.state(6, w29, w30, w30), 1);
        CHECKS.due("print 31", x.state(6, w30, 0, 0), FULL);
        CHECKS.due("store 30", x.state(1, 0, 9, 18), 2);
        CHECKS.due("store 31", x.state(1, 0, 9, 19), FULL);
        CHECKS.due("store 31", x.state(1, 0, 10, 18), FULL);

        begin("3 state, weight of then");
        weighing(29);
        int s14 = x.state(6, 12, 0, 0);
        int s15 = x.state(6, 13, 0, 0);
        CHECKS.due("then 30", x.state(2, s14, s15, 0), 2);
        CHECKS.due("then 31", x.state(2, s15, s15, 0), FULL);
        CHECKS.due("then 29", x.state(2, s14, s14, 0), 3);

        begin("3 state, weight of if");
        weighing(29);
        int s10 = x.state(6, 8, 0, 0);
        CHECKS.due("if 30", x.state(3, 8, s10, s10), 1);
        CHECKS.due("if 31", x.state(3, 9, s10, s10), FULL);
        CHECKS.due("if 30 without else", x.state(3, 18, s10, -1), 2);
        CHECKS.due("if 31 without else", x.state(3, 19, s10, -1), FULL);

        begin("3 state, weight of loops");
        weighing(29);
        int s28 = x.state(6, 26, 0, 0);
        int s29 = x.state(6, 27, 0, 0);
        int s30 = x.state(6, 28, 0, 0);
        CHECKS.due("repeat 30", x.state(4, 6, s29, 0), 3);
        CHECKS.due("repeat 31", x.state(4, 1, s30, 0), FULL);
        CHECKS.due("while 30", x.state(5, 0, s28, 0), 4);
        CHECKS.due("while 31", x.state(5, 0, s29, 0), FULL);
        CHECKS.due("while 31", x.state(5, 1, s28, 0), FULL);
    }

    private static void stateNesting() {
        begin("3 state, nesting");
        int e = constant(0);
        int plain = x.state(6, e, 0, 0);
        int one = x.state(4, 1, plain, 0);
        int two = x.state(5, e, one, 0);
        int three = x.state(4, 2, two, 0);
        CHECKS.due("three within each other", three, 3);
        CHECKS.due("four, by repeat", x.state(4, 1, three, 0), FULL);
        CHECKS.due("four, by while", x.state(5, e, three, 0), FULL);
        CHECKS.due("three after one", x.state(2, three, one, 0), 4);
        CHECKS.due("four, through then x", x.state(4, 1, 4, 0), FULL);
        CHECKS.due("one before three", x.state(2, one, three, 0), 5);
        CHECKS.due("four, through then y", x.state(5, e, 5, 0), FULL);
        CHECKS.due("three in if", x.state(3, e, three, -1), 6);
        CHECKS.due("four, through if", x.state(4, 1, 6, 0), FULL);
        CHECKS.due("three in else", x.state(3, e, plain, three), 7);
        CHECKS.due("four, through else", x.state(5, e, 7, 0), FULL);
        CHECKS.due("loops side by side", x.state(2, two, two, 0), 8);
        CHECKS.due("and one around them", x.state(4, 1, 8, 0), 9);
        CHECKS.due("and one more", x.state(4, 1, 9, 0), FULL);
    }

    private static void stateOrderOfTests() {
        begin("3 state, order of tests");
        int e = weighing(30);
        int s = x.state(6, 0, 0, 0);
        CHECKS.due("heavy and wrong", x.state(0, 8, e, 0), BAD);
        CHECKS.due("heavy and wrong", x.state(3, e, s, -2), BAD);
        CHECKS.due("heavy and wrong", x.state(5, e, 1, 0), BAD);
        int deep = x.state(4, 1, x.state(4, 1, x.state(4, 1, s, 0), 0), 0);
        CHECKS.due("deep and wrong", x.state(4, 7, deep, 0), BAD);
        CHECKS.due("deep and wrong", x.state(4, 0, deep, 0), BAD);
        for (int k = 4; k < 40; k++) {
            CHECKS.due("state number " + k, x.state(6, 0, 0, 0), k);
        }
        CHECKS.due("the 41st", x.state(6, 0, 0, 0), FULL);
        CHECKS.due("the 41st, of a wrong kind", x.state(-1, 0, 0, 0), FULL);
        CHECKS.due("the 41st, of a wrong part", x.state(6, -1, 0, 0), FULL);
        dueSafe("the last", 39, true);
        dueSafe("the one behind it", 40, false);
        CHECKS.due("label with 40 there", x.label(0, true), true);
        dueRun(39);
        CHECKS.due("run(40)", x.run(40), BAD);
    }

    private static void label() {
        begin("4 label");
        for (int v = 0; v < 8; v++) {
            x.setVariable(v, 10 + v);
            variable(v);
        }
        for (int a = 0; a < 2; a++) {
            x.setElement(a, 0, 20 + a);
            reading(a, 0);
        }
        for (int wrong : new int[] {-1, 10, MIN, MAX}) {
            CHECKS.due("label " + wrong, x.label(wrong, true), false);
        }
        dueSecretOnly(-1);
        for (int v = 0; v < 10; v++) {
            CHECKS.due("label " + v, x.label(v, true), true);
            dueSecretOnly(v);
            CHECKS.due("label " + v + " again", x.label(v, true), true);
            dueSecretOnly(v);
            CHECKS.due("public " + v, x.label(v, false), true);
            dueSecretOnly(-1);
        }
        for (int v = 0; v < 8; v++) {
            CHECKS.due("variable(" + v + ") is kept", x.variable(v), 10 + v);
        }
        CHECKS.due("element(0, 0) is kept", x.element(0, 0), 20);
        CHECKS.due("element(1, 0) is kept", x.element(1, 0), 21);
    }

    /** Expressions 0 to 7 are the variables, 8 and 9 read the arrays at variable 0. */
    private static void dueSecretOnly(int v) {
        for (int e = 0; e < 10; e++) {
            boolean due = e == v || v == 0 && e >= 8;
            CHECKS.due("secret(" + e + ") with " + v + " secret", x.secret(e), due);
        }
    }

    private static void secret() {
        begin("5 secret");
        CHECKS.due("label", x.label(1, true), true);
        int hidden = variable(1);
        int open = variable(0);
        CHECKS.due("a secret variable", x.secret(hidden), true);
        CHECKS.due("a public variable", x.secret(open), false);
        CHECKS.due("an int", x.secret(constant(1)), false);
        for (int kind = 3; kind <= 12; kind++) {
            CHECKS.due("kind " + kind + ", no", x.secret(x.express(kind, open, open, hidden)), false);
            CHECKS.due("kind " + kind + ", x", x.secret(x.express(kind, hidden, open, 0)), true);
            CHECKS.due("kind " + kind + ", y", x.secret(x.express(kind, open, hidden, 0)), true);
        }
        CHECKS.due("turned over", x.secret(x.express(13, hidden, open, open)), true);
        CHECKS.due("turned over", x.secret(x.express(13, open, hidden, hidden)), false);
        int first = x.express(14, hidden, open, open);
        int last = x.express(14, open, open, hidden);
        CHECKS.due("choosing by it", x.secret(first), true);
        CHECKS.due("choosing it", x.secret(x.express(14, open, hidden, open)), true);
        CHECKS.due("choosing it", x.secret(last), true);
        CHECKS.due("no secret part", x.secret(x.express(14, open, open, open)), false);
        int at = reading(0, hidden);
        CHECKS.due("a public array at a secret place", x.secret(at), true);
        int deep = x.express(13, x.express(13, last, 0, 0), 0, 0);
        CHECKS.due("a part of a part", x.secret(deep), true);
        x.label(1, false);
        CHECKS.due("public again", x.secret(deep), false);
        CHECKS.due("public again", x.secret(at), false);
        x.label(8, true);
        CHECKS.due("a secret array", x.secret(at), true);
        CHECKS.due("after label", x.secret(reading(0, open)), true);
        CHECKS.due("the other array", x.secret(reading(1, open)), false);
        x.label(8, false);
        x.label(9, true);
        CHECKS.due("the other array", x.secret(at), false);
        for (int wrong : new int[] {-1, 50, MIN, MAX}) {
            CHECKS.due("secret(" + wrong + ")", x.secret(wrong), false);
        }
    }

    /** Variable 1 and array 1 are secret; expression 0 is public, 1 is secret. */
    private static void beginLabelled(String part) {
        begin(part);
        x.label(1, true);
        x.label(9, true);
        variable(0);
        variable(1);
    }

    /** Whether statement s is safe in a hidden place is told by an if with a secret x. */
    private static void dueSafeBoth(String what, int s, boolean open, boolean hidden) {
        dueSafe(what + ", open", s, open);
        dueSafe(what + ", hidden", x.state(3, 1, s, -1), hidden);
    }

    private static void safeAssign() {
        beginLabelled("6 safe, kind 0");
        dueSafeBoth("public to public", x.state(0, 0, 0, 0), true, false);
        dueSafeBoth("secret to public", x.state(0, 0, 1, 0), false, false);
        dueSafeBoth("public to secret", x.state(0, 1, 0, 0), true, true);
        dueSafeBoth("secret to secret", x.state(0, 1, 1, 0), true, true);
        for (int wrong : new int[] {-1, 40, MIN, MAX}) {
            CHECKS.due("safe(" + wrong + ")", x.safe(wrong), false);
        }
        x.label(1, false);
        dueSafe("secret to public, labelled public", 2, true);
        x.label(1, true);
        dueSafe("secret to public, labelled secret", 2, false);
        x.label(0, true);
        dueSafe("all are secret", 2, true);
        dueSafe("all are secret, hidden", 1, true);
        x.label(0, false);
        dueSafe("hidden, to public again", 1, false);

        begin("6 safe, the first statement after label");
        int first = x.state(6, variable(0), 0, 0);
        dueSafe("public", first, true);
        x.label(0, true);
        dueSafe("secret", first, false);
        x.label(0, false);
        dueSafe("public again", first, true);
    }

    private static void safeStore() {
        beginLabelled("6 safe, kind 1");
        dueSafeBoth("public to public", x.state(1, 0, 0, 0), true, false);
        dueSafeBoth("secret to public", x.state(1, 0, 0, 1), false, false);
        dueSafeBoth("public to secret", x.state(1, 1, 0, 0), true, true);
        dueSafeBoth("secret to secret", x.state(1, 1, 0, 1), true, true);
        dueSafeBoth("at a secret place", x.state(1, 0, 1, 0), false, false);
        dueSafeBoth("at a secret place", x.state(1, 1, 1, 0), false, false);
        dueSafeBoth("at a secret place", x.state(1, 1, 1, 1), false, false);
    }

    private static void safeThen() {
        beginLabelled("6 safe, kind 2");
        int both = x.state(0, 1, 0, 0);
        int open = x.state(0, 0, 0, 0);
        int never = x.state(0, 0, 1, 0);
        dueSafeBoth("both, both", x.state(2, both, both, 0), true, true);
        dueSafeBoth("both, open", x.state(2, both, open, 0), true, false);
        dueSafeBoth("open, both", x.state(2, open, both, 0), true, false);
        dueSafeBoth("never, both", x.state(2, never, both, 0), false, false);
        dueSafeBoth("both, never", x.state(2, both, never, 0), false, false);
    }

    private static void safeIf() {
        beginLabelled("6 safe, kind 3");
        int both = x.state(0, 1, 0, 0);
        int open = x.state(0, 0, 0, 0);
        int never = x.state(0, 0, 1, 0);
        for (int e = 0; e < 2; e++) {
            boolean isPublic = e == 0;
            dueSafeBoth("both", x.state(3, e, both, -1), true, true);
            dueSafeBoth("both, both", x.state(3, e, both, both), true, true);
            dueSafeBoth("open", x.state(3, e, open, -1), isPublic, false);
            dueSafeBoth("open, both", x.state(3, e, open, both), isPublic, false);
            dueSafeBoth("both, open", x.state(3, e, both, open), isPublic, false);
            dueSafeBoth("never, both", x.state(3, e, never, both), false, false);
            dueSafeBoth("both, never", x.state(3, e, both, never), false, false);
        }
    }

    private static void safeRepeat() {
        beginLabelled("6 safe, kind 4");
        dueSafeBoth("both", x.state(4, 3, x.state(0, 1, 0, 0), 0), true, true);
        dueSafeBoth("open", x.state(4, 3, x.state(0, 0, 0, 0), 0), true, false);
        dueSafeBoth("never", x.state(4, 3, x.state(0, 0, 1, 0), 0), false, false);
    }

    private static void safeWhile() {
        beginLabelled("6 safe, kind 5");
        int both = x.state(0, 1, 0, 0);
        int open = x.state(0, 0, 0, 0);
        int never = x.state(0, 0, 1, 0);
        dueSafeBoth("public, both", x.state(5, 0, both, 0), true, false);
        dueSafeBoth("public, open", x.state(5, 0, open, 0), true, false);
        dueSafeBoth("public, never", x.state(5, 0, never, 0), false, false);
        dueSafeBoth("secret, both", x.state(5, 1, both, 0), false, false);
        dueSafeBoth("secret, open", x.state(5, 1, open, 0), false, false);
    }

    private static void safePrint() {
        beginLabelled("6 safe, kind 6");
        dueSafeBoth("public", x.state(6, 0, 0, 0), true, false);
        dueSafeBoth("secret", x.state(6, 1, 0, 0), false, false);
    }

    private static void safeReading() {
        beginLabelled("6 safe, reading");
        int openly = reading(1, 0);
        int hidden = reading(1, 1);
        int fromPublic = reading(0, 1);
        int deep = x.express(3, 0, x.express(13, hidden, 0, 0), 0);
        int within = reading(1, x.express(3, openly, 0, 0));
        int both = x.state(0, 1, 0, 0);
        dueSafeBoth("a secret array at a public place", x.state(0, 1, openly, 0), true, true);
        dueSafeBoth("a secret array at a secret place", x.state(0, 1, hidden, 0), false, false);
        dueSafeBoth("a public array at a secret place", x.state(0, 1, fromPublic, 0), false, false);
        dueSafeBoth("a part of a part", x.state(0, 1, deep, 0), false, false);
        dueSafeBoth("a secret element as a place", x.state(0, 1, within, 0), false, false);
        dueSafeBoth("stored", x.state(1, 1, 0, deep), false, false);
        dueSafeBoth("stored", x.state(1, 1, 0, openly), true, true);
        dueSafeBoth("asked by if", x.state(3, hidden, both, -1), false, false);
        dueSafeBoth("asked by if", x.state(3, deep, both, both), false, false);
        dueSafeBoth("asked by if", x.state(3, openly, both, both), true, true);
        for (int side = 0; side < 3; side++) {
            int a = side == 0 ? hidden : 0;
            int b = side == 1 ? hidden : 0;
            int c = side == 2 ? hidden : 0;
            dueSafe("chosen", x.state(0, 1, x.express(14, a, b, c), 0), false);
        }
        x.label(1, false);
        dueSafe("a public array at a place that is public now", 5, true);
        dueSafe("a secret element to a variable that is public now", 3, false);
    }

    private static void run() {
        begin("7 run");
        CHECKS.due("none is there", x.run(0), BAD);
        x.setVariable(0, 4);
        int e = variable(0);
        int print = x.state(6, e, 0, 0);
        int choose = x.state(3, e, print, -1);
        for (int wrong : new int[] {-1, 2, 40, MIN, MAX}) {
            CHECKS.due("run(" + wrong + ")", x.run(wrong), BAD);
        }
        dueRun(choose);
        dueOutput(4);
        dueLeaks(1);
        CHECKS.due("none is there", x.run(2), BAD);
        dueOutput(4);
        dueLeaks(1);
        x.label(0, true);
        CHECKS.due("not safe", x.run(choose), UNSAFE);
        dueOutput(4);
        dueLeaks(1);
        int add = x.state(0, 1, e, 0);
        CHECKS.due("not safe", x.run(add), UNSAFE);
        CHECKS.due("nothing happened", x.variable(1), 0);
        dueOutput(4);
        x.label(0, false);
        dueRun(add);
        CHECKS.due("it happened", x.variable(1), 4);
        dueOutput();
        dueLeaks();
        dueRun(print);
        dueOutput(4);
        dueRun(print);
        dueOutput(4);
    }

    private static void runStatements() {
        begin("7 run, statements 0, 1, 2");
        int e3 = constant(3);
        int e21 = constant(21);
        int sum = x.express(3, variable(2), e3, 0);
        int assign = x.state(0, 2, sum, 0);
        int store = x.state(1, 1, e21, sum);
        dueRun(x.state(2, assign, store, 0));
        CHECKS.due("variable(2)", x.variable(2), 3);
        CHECKS.due("element(1, 5), first then second", x.element(1, 5), 6);
        dueRun(x.state(2, store, assign, 0));
        CHECKS.due("variable(2)", x.variable(2), 6);
        CHECKS.due("element(1, 5), second then first", x.element(1, 5), 6);
        dueRun(x.state(2, assign, assign, 0));
        CHECKS.due("variable(2), twice", x.variable(2), 12);

        begin("7 run, statement 1 wraps its place");
        for (int i : new int[] {0, 7, 8, 15, -1, -8, MIN, MAX}) {
            x = new SecretKeeper();
            dueRun(x.state(1, 0, constant(i), constant(9)));
            for (int k = 0; k < 8; k++) {
                CHECKS.due("element(0, " + k + ")", x.element(0, k), k == (i & 7) ? 9 : 0);
                CHECKS.due("element(1, " + k + ")", x.element(1, k), 0);
            }
            dueLeaks(32 + (i & 7));
        }

        begin("7 run, statement 3 with public x");
        int e = variable(0);
        int yes = x.state(6, constant(1), 0, 0);
        int no = x.state(6, constant(2), 0, 0);
        int two = x.state(3, e, yes, no);
        int one = x.state(3, e, yes, -1);
        for (int value : new int[] {1, -1, 2, MIN, 256}) {
            x.setVariable(0, value);
            dueRun(two);
            dueOutput(1);
            dueLeaks(1);
            dueRun(one);
            dueOutput(1);
            dueLeaks(1);
        }
        x.setVariable(0, 0);
        dueRun(two);
        dueOutput(2);
        dueLeaks(0);
        dueRun(one);
        dueOutput();
        dueLeaks(0);

        begin("7 run, statement 4");
        int more = x.state(0, 0, x.express(3, variable(0), constant(1), 0), 0);
        for (int times = 1; times <= 6; times++) {
            x.setVariable(0, 0);
            dueRun(x.state(4, times, more, 0));
            CHECKS.due("repeated " + times + " times", x.variable(0), times);
            dueLeaks();
        }
        int nested = x.state(4, 4, x.state(4, 6, x.state(4, 5, more, 0), 0), 0);
        x.setVariable(0, 0);
        dueRun(nested);
        CHECKS.due("4 * 6 * 5", x.variable(0), 120);
    }

    private static void runSeemingly() {
        begin("7 run, statement 3 with secret x");
        x.label(0, true);
        x.label(1, true);
        x.label(9, true);
        int secret = variable(0);
        int v1 = variable(1);
        int y = x.state(0, 1, x.express(3, v1, constant(10), 0), 0);
        int z = x.state(1, 1, constant(3), v1);
        int two = x.state(3, secret, y, z);
        int one = x.state(3, secret, y, -1);
        int other = x.state(3, secret, z, y);
        for (int value : new int[] {1, -1, MIN, 0}) {
            boolean taken = value != 0;
            x.setVariable(0, value);
            x.setVariable(1, 5);
            x.setElement(1, 3, 7);
            dueRun(two);
            dueLeaks(43);
            CHECKS.due("variable(1)", x.variable(1), taken ? 15 : 5);
            CHECKS.due("element(1, 3)", x.element(1, 3), taken ? 7 : 5);
            dueRun(one);
            dueLeaks();
            CHECKS.due("variable(1)", x.variable(1), taken ? 25 : 5);
            CHECKS.due("element(1, 3)", x.element(1, 3), taken ? 7 : 5);
            dueRun(other);
            dueLeaks(43);
            CHECKS.due("variable(1)", x.variable(1), taken ? 25 : 15);
            CHECKS.due("element(1, 3)", x.element(1, 3), taken ? 25 : 5);
        }

        begin("7 run, seemingly within");
        for (int v = 0; v < 4; v++) {
            x.label(v, true);
        }
        int e0 = variable(0);
        int e1 = variable(1);
        int open = variable(4);
        int set2 = x.state(0, 2, constant(22), 0);
        int set3 = x.state(0, 3, constant(33), 0);
        int inner = x.state(3, e1, set2, set3);
        int twice = x.state(4, 2, x.state(3, open, x.state(2, inner, set2, 0), set3), 0);
        int outer = x.state(3, e0, twice, -1);
        for (int k = 0; k < 8; k++) {
            boolean a = (k & 1) != 0;
            boolean b = (k & 2) != 0;
            boolean c = (k & 4) != 0;
            x.setVariable(0, a ? 5 : 0);
            x.setVariable(1, b ? 5 : 0);
            x.setVariable(4, c ? 5 : 0);
            x.setVariable(2, 0);
            x.setVariable(3, 0);
            dueRun(outer);
            dueLeaks(c ? 1 : 0, c ? 1 : 0);
            CHECKS.due("variable(2)", x.variable(2), a && c ? 22 : 0);
            CHECKS.due("variable(3)", x.variable(3), a && (!b || !c) ? 33 : 0);
        }

        begin("7 run, what is done really is seen by what is done seemingly after it");
        x.label(0, true);
        int e = variable(0);
        int clear = x.state(0, 0, constant(0), 0);
        int set = x.state(0, 0, constant(8), 0);
        int swap = x.state(3, e, clear, set);
        x.setVariable(0, 1);
        dueRun(swap);
        CHECKS.due("x is worked out once, so z stays seeming", x.variable(0), 0);
        dueRun(swap);
        CHECKS.due("x was 0", x.variable(0), 8);
    }

    private static void runWhile() {
        begin("7 run, statement 5");
        int e = variable(0);
        int less = x.state(0, 0, x.express(4, e, constant(1), 0), 0);
        int loop = x.state(5, e, less, 0);
        int[] starts = {0, 1, 5, 6, 7, -1};
        int[] ends = {0, 0, 0, 0, 1, -7};
        int[][] leaks = {{2}, {3, 2}, {3, 3, 3, 3, 3, 2}, {3, 3, 3, 3, 3, 3}, {3, 3, 3, 3, 3, 3},
            {3, 3, 3, 3, 3, 3}};
        for (int k = 0; k < starts.length; k++) {
            x.setVariable(0, starts[k]);
            dueRun(loop);
            CHECKS.due("from " + starts[k], x.variable(0), ends[k]);
            dueLeaks(leaks[k]);
        }
        int around = x.state(4, 2, loop, 0);
        x.setVariable(0, 8);
        dueRun(around);
        CHECKS.due("each time 6 anew", x.variable(0), 0);
        dueLeaks(3, 3, 3, 3, 3, 3, 3, 3, 2);

        begin("7 run, statement 5 within itself");
        int a = variable(0);
        int b = variable(1);
        int lessA = x.state(0, 0, x.express(4, a, constant(1), 0), 0);
        int lessB = x.state(0, 1, x.express(4, b, constant(1), 0), 0);
        int inner = x.state(5, b, lessB, 0);
        int outer = x.state(5, a, x.state(2, lessA, inner, 0), 0);
        x.setVariable(0, 3);
        x.setVariable(1, 8);
        dueRun(outer);
        dueLeaks(3, 3, 3, 3, 3, 3, 3, 3, 3, 3, 2, 3, 2, 2);
        CHECKS.due("variable(1)", x.variable(1), 0);

        begin("7 run, statement 5 with a reading");
        int at = variable(0);
        int read = reading(1, at);
        int next = x.state(0, 0, x.express(3, at, constant(1), 0), 0);
        x.setElement(1, 0, 9);
        x.setElement(1, 1, -9);
        dueRun(x.state(5, read, next, 0));
        dueLeaks(24, 3, 25, 3, 26, 2);
        CHECKS.due("variable(0)", x.variable(0), 2);
    }

    private static void leaksInOrder() {
        begin("8 and 9 leaks, leak");
        for (int k = 0; k < 8; k++) {
            x.setElement(0, k, k + 1);
            x.setElement(1, k, 7 - k);
        }
        int e0 = constant(0);
        int a = reading(0, e0);
        int b = reading(1, a);
        int c = reading(0, b);
        dueRun(x.state(6, c, 0, 0));
        dueLeaks(16, 25, 22);
        dueOutput(7);
        int three = x.express(14, a, b, c);
        dueRun(x.state(6, three, 0, 0));
        dueLeaks(16, 16, 25, 16, 25, 22);
        dueOutput(6);
        int twice = x.express(3, b, b, 0);
        dueRun(x.state(6, twice, 0, 0));
        dueLeaks(16, 25, 16, 25);
        dueOutput(12);
        int store = x.state(1, 1, a, c);
        dueRun(store);
        dueLeaks(16, 16, 25, 22, 41);
        CHECKS.due("element(1, 1)", x.element(1, 1), 7);
        dueRun(x.state(3, a, store, -1));
        dueLeaks(16, 1, 16, 16, 25, 23, 41);
        dueRun(x.state(0, 3, e0, 0));
        dueLeaks();

        begin("8 and 9 leaks, all places");
        for (int array = 0; array < 2; array++) {
            for (int i = -8; i < 16; i++) {
                x = new SecretKeeper();
                int e = constant(i);
                dueRun(x.state(1, array, e, reading(1 - array, e)));
                dueLeaks(16 + 8 * (1 - array) + (i & 7), 32 + 8 * array + (i & 7));
            }
        }

        begin("9 leak, wrong k");
        dueRun(x.state(6, reading(0, constant(1)), 0, 0));
        for (int wrong : new int[] {-1, 1, 199, 200, MIN, MAX}) {
            CHECKS.due("leak(" + wrong + ")", x.leak(wrong), BAD);
        }
        dueLeaks(17);
        x.label(0, true);
        x.setVariable(0, 1);
        x.level(0);
        constant(3);
        dueLeaks(17);
    }

    private static void leaksBeyondTheKept() {
        begin("8 and 9 leaks, more than are answered");
        int v = variable(0);
        int read = reading(0, v);
        int four = x.express(3, x.express(3, read, read, 0), x.express(3, read, read, 0), 0);
        int s = x.state(0, 0, x.express(3, v, constant(1), 0), 0);
        int all = x.state(2, x.state(6, four, 0, 0), s, 0);
        int many = x.state(4, 6, x.state(4, 6, x.state(4, 6, all, 0), 0), 0);
        dueRun(many);
        CHECKS.due("leaks()", x.leaks(), 864);
        for (int k = 0; k < 200; k++) {
            CHECKS.due("leak(" + k + ")", x.leak(k), 16 + (k / 4 & 7));
        }
        CHECKS.due("leak(200)", x.leak(200), BAD);
        CHECKS.due("leak(863)", x.leak(863), BAD);
        CHECKS.due("leak(MAX)", x.leak(MAX), BAD);
        CHECKS.due("printed()", x.printed(), 216);
        dueRun(s);
        dueLeaks();
        CHECKS.due("leak(0)", x.leak(0), BAD);
    }

    private static void outputs() {
        begin("10 and 11 printed, output");
        int e = variable(0);
        int more = x.state(0, 0, x.express(3, e, constant(3), 0), 0);
        int print = x.state(2, x.state(6, e, 0, 0), more, 0);
        int many = x.state(4, 5, x.state(4, 5, print, 0), 0);
        x.setVariable(0, -6);
        dueRun(many);
        CHECKS.due("printed()", x.printed(), 25);
        for (int k = 0; k < 20; k++) {
            CHECKS.due("output(" + k + ")", x.output(k), 3 * k - 6);
        }
        for (int wrong : new int[] {20, 21, 24, 25, -1, MIN, MAX}) {
            CHECKS.due("output(" + wrong + ")", x.output(wrong), 0);
        }
        dueRun(x.state(4, 2, print, 0));
        dueOutput(69, 72);
        CHECKS.due("output(19) of before", x.output(19), 0);
        dueRun(more);
        dueOutput();
        CHECKS.due("output(0) of before", x.output(0), 0);
    }

    private static void variables() {
        begin("12 and 13 variable, setVariable");
        for (int v = 0; v < 8; v++) {
            CHECKS.due("setVariable(" + v + ")", x.setVariable(v, MIN + v), true);
        }
        for (int wrong : new int[] {-1, 8, 9, MIN, MAX}) {
            CHECKS.due("setVariable(" + wrong + ")", x.setVariable(wrong, 77), false);
            CHECKS.due("variable(" + wrong + ")", x.variable(wrong), 0);
        }
        for (int v = 0; v < 8; v++) {
            CHECKS.due("variable(" + v + ")", x.variable(v), MIN + v);
        }
        x.label(3, true);
        CHECKS.due("a secret one is set too", x.setVariable(3, MAX), true);
        CHECKS.due("a secret one is told too", x.variable(3), MAX);
        dueRun(x.state(0, 4, constant(12), 0));
        CHECKS.due("outlasts a run", x.variable(4), 12);
        CHECKS.due("the others stay", x.variable(5), MIN + 5);
    }

    private static void elements() {
        begin("14 and 15 element, setElement");
        for (int a = 0; a < 2; a++) {
            for (int i = 0; i < 8; i++) {
                CHECKS.due("setElement", x.setElement(a, i, 100 * a - i - 1), true);
            }
        }
        int[][] wrongs = {{-1, 0}, {2, 0}, {0, -1}, {0, 8}, {1, -1}, {1, 8}, {-1, 8}, {2, -8},
            {MIN, 0}, {MAX, 0}, {0, MIN}, {0, MAX}, {536870912, 0}};
        for (int[] w : wrongs) {
            CHECKS.due("setElement(" + w[0] + ", " + w[1] + ")", x.setElement(w[0], w[1], 9), false);
            CHECKS.due("element(" + w[0] + ", " + w[1] + ")", x.element(w[0], w[1]), 0);
        }
        for (int a = 0; a < 2; a++) {
            for (int i = 0; i < 8; i++) {
                CHECKS.due("element(" + a + ", " + i + ")", x.element(a, i), 100 * a - i - 1);
            }
        }
        x.label(9, true);
        CHECKS.due("a secret one is set too", x.setElement(1, 7, MIN), true);
        CHECKS.due("a secret one is told too", x.element(1, 7), MIN);
    }

    private static void level() {
        begin("16 level");
        for (int wrong : new int[] {-1, 3, MIN, MAX}) {
            CHECKS.due("level(" + wrong + ")", x.level(wrong), false);
        }
        x.label(0, true);
        int e = variable(0);
        int half = x.state(0, 0, x.express(10, e, constant(1), 0), 0);
        int rest = x.state(1, 0, constant(2), reading(0, constant(1)));
        int all = x.state(2, x.state(3, e, half, -1), rest, 0);
        for (int k = 0; k <= 2; k++) {
            CHECKS.due("level(" + k + ")", x.level(k), true);
            x.setVariable(0, 9);
            x.setElement(0, 1, 6);
            dueRun(all);
            CHECKS.due("variable(0)", x.variable(0), 4);
            CHECKS.due("element(0, 2)", x.element(0, 2), 6);
            dueLeaks(17, 34);
        }
    }

    private static void orderAndLimits() {
        begin("17 order and limits");
        x.label(9, true);
        x.label(0, true);
        int read = reading(1, constant(5));
        int set = x.state(0, 0, constant(1), 0);
        int clear = x.state(0, 0, reading(0, constant(2)), 0);
        int s = x.state(3, read, set, clear);
        for (int value : new int[] {0, 1, -4}) {
            x.setElement(1, 5, value);
            dueRun(s);
            dueLeaks(29, 18);
            CHECKS.due("variable(0)", x.variable(0), value != 0 ? 1 : 0);
        }
        x.label(9, false);
        x.label(0, false);
        dueRun(s);
        dueLeaks(29, 1);
        x.setElement(1, 5, 0);
        dueRun(s);
        dueLeaks(29, 0, 18);
    }
}
