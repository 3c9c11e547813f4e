/**
 * Programs over public and secret numbers, run so that what the machine leaks says nothing about
 * the secret ones. README.md tells how to use it.
 */
public final class SecretKeeper {
    public static final int BAD = -1;
    public static final int FULL = -2;
    public static final int UNSAFE = -3;
    public static final int OK = 0;

    private static final int VARIABLES = 8;
    private static final int ARRAYS = 2;
    private static final int ELEMENTS = 8;
    private static final int ALL_ELEMENTS = ARRAYS * ELEMENTS;
    private static final int LABELS = VARIABLES + ARRAYS;
    private static final int MOST_EXPRESSIONS = 50;
    private static final int MOST_STATEMENTS = 40;
    private static final int MOST_WEIGHT = 30;
    private static final int MOST_NESTING = 3;
    private static final int MOST_TURNS = 6;
    private static final int HIGHEST_LEVEL = 2;
    private static final int LEAKS_KEPT = 200;
    private static final int OUTPUTS_KEPT = 20;
    private static final int NONE = -1;

    private static final int ALL_ORDERS = MOST_EXPRESSIONS * MOST_WEIGHT;
    /** Two above the greatest height, so that three operands can be read at any height. */
    private static final int VALUES = MOST_WEIGHT + 2;
    /** Three loops of 6 turns within each other and a weight of 30 stay below ten thousand steps. */
    private static final int MOST_STEPS = 1000000;

    private static final int CONSTANT = 0;
    private static final int VARIABLE = 1;
    private static final int ELEMENT = 2;
    private static final int PLUS = 3;
    private static final int MINUS = 4;
    private static final int TIMES = 5;
    private static final int AND = 6;
    private static final int OR = 7;
    private static final int XOR = 8;
    private static final int SHIFT_LEFT = 9;
    private static final int SHIFT_RIGHT = 10;
    private static final int LESS = 11;
    private static final int EQUAL = 12;
    private static final int NOT = 13;
    private static final int CHOOSE = 14;

    private static final int ASSIGN = 0;
    private static final int STORE = 1;
    private static final int THEN = 2;
    private static final int IF = 3;
    private static final int REPEAT = 4;
    private static final int WHILE = 5;
    private static final int PRINT = 6;

    private static final int LEAK_OF_ZERO = 0;
    private static final int LEAK_OF_NOT_ZERO = 1;
    private static final int LEAK_OF_END = 2;
    private static final int LEAK_OF_TURN = 3;
    private static final int LEAK_OF_READING = 16;
    private static final int LEAK_OF_WRITING = 32;

    private final int[] variables = new int[VARIABLES];
    private final int[] elements = new int[ALL_ELEMENTS];
    /** Which are secret: the variables, and behind them the arrays, as label numbers them. */
    private final boolean[] labelled = new boolean[LABELS];

    private int expressions = 0;
    private final int[] expressionKind = new int[MOST_EXPRESSIONS];
    /** The int, variable or array that x is in the kinds where it is no part. */
    private final int[] expressionOwn = new int[MOST_EXPRESSIONS];
    private final int[] partX = new int[MOST_EXPRESSIONS];
    private final int[] partY = new int[MOST_EXPRESSIONS];
    private final int[] partZ = new int[MOST_EXPRESSIONS];
    private final int[] expressionWeight = new int[MOST_EXPRESSIONS];
    /**
     * For each expression, as many entries as it weighs: the expressions in it in the order in
     * which they are worked out, itself last. One that is a part twice stands there twice.
     */
    private final int[] order = new int[ALL_ORDERS];
    private final boolean[] expressionSecret = new boolean[MOST_EXPRESSIONS];
    /** Whether every expression 2 in it is read at a public place. */
    private final boolean[] readsOpenly = new boolean[MOST_EXPRESSIONS];

    private int statements = 0;
    private final int[] statementKind = new int[MOST_STATEMENTS];
    private final int[] statementX = new int[MOST_STATEMENTS];
    private final int[] statementY = new int[MOST_STATEMENTS];
    private final int[] statementZ = new int[MOST_STATEMENTS];
    private final int[] statementWeight = new int[MOST_STATEMENTS];
    private final int[] statementNesting = new int[MOST_STATEMENTS];
    private final boolean[] safeOpen = new boolean[MOST_STATEMENTS];
    private final boolean[] safeHidden = new boolean[MOST_STATEMENTS];

    private int leakCount = 0;
    private final int[] leaked = new int[LEAKS_KEPT];
    private int printCount = 0;
    private final int[] prints = new int[OUTPUTS_KEPT];

    private final int[] values = new int[VALUES];

    /** What a run has still to execute, the next one last: each ancestor leaves at most one here. */
    private int planned = 0;
    private final int[] plannedStatement = new int[MOST_WEIGHT];
    private final int[] plannedTurn = new int[MOST_WEIGHT];
    private final boolean[] plannedReally = new boolean[MOST_WEIGHT];

    public SecretKeeper() {
    }

    public int express(int kind, int x, int y, int z) {
        if (expressions >= MOST_EXPRESSIONS) {
            return FULL;
        }
        if (kind < CONSTANT || kind > CHOOSE || !expressionFits(kind, x, y, z)) {
            return BAD;
        }
        int first = kind >= PLUS ? x : NONE;
        int second = kind >= ELEMENT && kind != NOT ? y : NONE;
        int third = kind == CHOOSE ? z : NONE;
        if (1 + weightOfPart(first) + weightOfPart(second) + weightOfPart(third) > MOST_WEIGHT) {
            return FULL;
        }
        int e = expressions;
        expressions++;
        expressionKind[e] = kind;
        expressionOwn[e] = x;
        partX[e] = first;
        partY[e] = second;
        partZ[e] = third;
        putInOrder(e);
        judgeExpression(e);
        return e;
    }

    public int state(int kind, int x, int y, int z) {
        if (statements >= MOST_STATEMENTS) {
            return FULL;
        }
        if (kind < ASSIGN || kind > PRINT || !statementFits(kind, x, y, z)) {
            return BAD;
        }
        int weight = weightOf(kind, x, y, z);
        int nesting = nestingOf(kind, x, y, z);
        if (weight > MOST_WEIGHT || nesting > MOST_NESTING) {
            return FULL;
        }
        int s = statements;
        statements++;
        statementKind[s] = kind;
        statementX[s] = x;
        statementY[s] = y;
        statementZ[s] = z;
        statementWeight[s] = weight;
        statementNesting[s] = nesting;
        judgeStatement(s);
        return s;
    }

    public boolean label(int v, boolean secret) {
        if (v < 0 || v >= LABELS) {
            return false;
        }
        labelled[v] = secret;
        for (int e = 0; e < expressions; e++) {
            judgeExpression(e);
        }
        for (int s = 0; s < statements; s++) {
            judgeStatement(s);
        }
        return true;
    }

    public boolean secret(int e) {
        return isExpression(e) && expressionSecret[e];
    }

    public boolean safe(int s) {
        return isStatement(s) && safeOpen[s];
    }

    public int run(int s) {
        if (!isStatement(s)) {
            return BAD;
        }
        if (!safeOpen[s]) {
            return UNSAFE;
        }
        leakCount = 0;
        printCount = 0;
        planned = 0;
        plan(s, 0, true);
        for (int step = 0; step < MOST_STEPS && planned > 0; step++) {
            executeNext();
        }
        return OK;
    }

    public int leaks() {
        return leakCount;
    }

    public int leak(int k) {
        return k >= 0 && k < leakCount && k < LEAKS_KEPT ? leaked[k] : BAD;
    }

    public int printed() {
        return printCount;
    }

    public int output(int k) {
        return k >= 0 && k < printCount && k < OUTPUTS_KEPT ? prints[k] : 0;
    }

    public int variable(int v) {
        return isVariable(v) ? variables[v] : 0;
    }

    public boolean setVariable(int v, int value) {
        if (!isVariable(v)) {
            return false;
        }
        variables[v] = value;
        return true;
    }

    public int element(int array, int i) {
        return isElement(array, i) ? elements[array * ELEMENTS + i] : 0;
    }

    public boolean setElement(int array, int i, int value) {
        if (!isElement(array, i)) {
            return false;
        }
        elements[array * ELEMENTS + i] = value;
        return true;
    }

    /** The level is not kept: it may show in no answer, and one way to run serves every level. */
    public boolean level(int k) {
        return k >= 0 && k <= HIGHEST_LEVEL;
    }

    private static boolean isVariable(int v) {
        return v >= 0 && v < VARIABLES;
    }

    private static boolean isArray(int array) {
        return array >= 0 && array < ARRAYS;
    }

    private static boolean isElement(int array, int i) {
        return isArray(array) && i >= 0 && i < ELEMENTS;
    }

    private boolean isExpression(int e) {
        return e >= 0 && e < expressions;
    }

    private boolean isStatement(int s) {
        return s >= 0 && s < statements;
    }

    private boolean expressionFits(int kind, int x, int y, int z) {
        switch (kind) {
            case CONSTANT:
                return true;
            case VARIABLE:
                return isVariable(x);
            case ELEMENT:
                return isArray(x) && isExpression(y);
            case NOT:
                return isExpression(x);
            case CHOOSE:
                return isExpression(x) && isExpression(y) && isExpression(z);
            default:
                return isExpression(x) && isExpression(y);
        }
    }

    private int weightOfPart(int e) {
        return e == NONE ? 0 : expressionWeight[e];
    }

    private void putInOrder(int e) {
        int length = 0;
        length = copyOrder(partX[e], e, length);
        length = copyOrder(partY[e], e, length);
        length = copyOrder(partZ[e], e, length);
        order[e * MOST_WEIGHT + length] = e;
        expressionWeight[e] = length + 1;
    }

    private int copyOrder(int part, int e, int length) {
        int more = weightOfPart(part);
        for (int i = 0; i < more; i++) {
            order[e * MOST_WEIGHT + length + i] = order[part * MOST_WEIGHT + i];
        }
        return length + more;
    }

    /** Parts come before what they are parts of, so what is asked of them here is already known. */
    private void judgeExpression(int e) {
        int kind = expressionKind[e];
        int own = expressionOwn[e];
        expressionSecret[e] = kind == VARIABLE && labelled[own]
                || kind == ELEMENT && labelled[VARIABLES + own]
                || isSecretPart(partX[e]) || isSecretPart(partY[e]) || isSecretPart(partZ[e]);
        readsOpenly[e] = (kind != ELEMENT || !isSecretPart(partY[e]))
                && partReadsOpenly(partX[e]) && partReadsOpenly(partY[e])
                && partReadsOpenly(partZ[e]);
    }

    private boolean isSecretPart(int e) {
        return e != NONE && expressionSecret[e];
    }

    private boolean partReadsOpenly(int e) {
        return e == NONE || readsOpenly[e];
    }

    private boolean statementFits(int kind, int x, int y, int z) {
        switch (kind) {
            case ASSIGN:
                return isVariable(x) && isExpression(y);
            case STORE:
                return isArray(x) && isExpression(y) && isExpression(z);
            case THEN:
                return isStatement(x) && isStatement(y);
            case IF:
                return isExpression(x) && isStatement(y) && (z == NONE || isStatement(z));
            case REPEAT:
                return x >= 1 && x <= MOST_TURNS && isStatement(y);
            case WHILE:
                return isExpression(x) && isStatement(y);
            default:
                return isExpression(x);
        }
    }

    private int weightOf(int kind, int x, int y, int z) {
        switch (kind) {
            case ASSIGN:
                return 1 + expressionWeight[y];
            case STORE:
                return 1 + expressionWeight[y] + expressionWeight[z];
            case THEN:
                return 1 + statementWeight[x] + statementWeight[y];
            case IF:
                int otherwise = z == NONE ? 0 : statementWeight[z];
                return 1 + expressionWeight[x] + statementWeight[y] + otherwise;
            case REPEAT:
                return 1 + statementWeight[y];
            case WHILE:
                return 1 + expressionWeight[x] + statementWeight[y];
            default:
                return 1 + expressionWeight[x];
        }
    }

    private int nestingOf(int kind, int x, int y, int z) {
        switch (kind) {
            case THEN:
                return larger(statementNesting[x], statementNesting[y]);
            case IF:
                int otherwise = z == NONE ? 0 : statementNesting[z];
                return larger(statementNesting[y], otherwise);
            case REPEAT:
            case WHILE:
                return 1 + statementNesting[y];
            default:
                return 0;
        }
    }

    private static int larger(int a, int b) {
        return a > b ? a : b;
    }

    private void judgeStatement(int s) {
        safeOpen[s] = holdsIn(s, false);
        safeHidden[s] = holdsIn(s, true);
    }

    private boolean holdsIn(int s, boolean hidden) {
        int x = statementX[s];
        int y = statementY[s];
        int z = statementZ[s];
        switch (statementKind[s]) {
            case ASSIGN:
                return readsOpenly[y] && mayTake(x, hidden || expressionSecret[y]);
            case STORE:
                return readsOpenly[y] && readsOpenly[z] && !expressionSecret[y]
                        && mayTake(VARIABLES + x, hidden || expressionSecret[z]);
            case THEN:
                return isSafeIn(x, hidden) && isSafeIn(y, hidden);
            case IF:
                boolean within = hidden || expressionSecret[x];
                return readsOpenly[x] && isSafeIn(y, within) && isSafeIn(z, within);
            case REPEAT:
                return isSafeIn(y, hidden);
            case WHILE:
                return !hidden && readsOpenly[x] && !expressionSecret[x] && isSafeIn(y, false);
            default:
                return !hidden && readsOpenly[x] && !expressionSecret[x];
        }
    }

    private boolean mayTake(int labelNumber, boolean somethingSecret) {
        return labelled[labelNumber] || !somethingSecret;
    }

    private boolean isSafeIn(int s, boolean hidden) {
        return s == NONE || (hidden ? safeHidden[s] : safeOpen[s]);
    }

    private void plan(int s, int turn, boolean really) {
        if (s == NONE) {
            return;
        }
        plannedStatement[planned] = s;
        plannedTurn[planned] = turn;
        plannedReally[planned] = really;
        planned++;
    }

    /** What is planned last is executed first, so a statement plans what it is made of backwards. */
    private void executeNext() {
        planned--;
        int s = plannedStatement[planned];
        int turn = plannedTurn[planned];
        boolean really = plannedReally[planned];
        switch (statementKind[s]) {
            case ASSIGN:
                assign(s, really);
                break;
            case STORE:
                store(s, really);
                break;
            case THEN:
                plan(statementY[s], 0, really);
                plan(statementX[s], 0, really);
                break;
            case IF:
                branch(s, really);
                break;
            case REPEAT:
                if (turn < statementX[s]) {
                    planTurn(s, turn, really);
                }
                break;
            case WHILE:
                loop(s, turn, really);
                break;
            default:
                print(s, really);
                break;
        }
    }

    private void assign(int s, boolean really) {
        int value = workOut(statementY[s]);
        if (really) {
            variables[statementX[s]] = value;
        }
    }

    private void store(int s, boolean really) {
        int place = workOut(statementY[s]);
        int value = workOut(statementZ[s]);
        int at = placeOf(statementX[s], place);
        addLeak(LEAK_OF_WRITING + at);
        if (really) {
            elements[at] = value;
        }
    }

    private void branch(int s, boolean really) {
        int x = statementX[s];
        boolean taken = workOut(x) != 0;
        if (expressionSecret[x]) {
            plan(statementZ[s], 0, really && !taken);
            plan(statementY[s], 0, really && taken);
        } else {
            addLeak(taken ? LEAK_OF_NOT_ZERO : LEAK_OF_ZERO);
            plan(taken ? statementY[s] : statementZ[s], 0, really);
        }
    }

    private void loop(int s, int turn, boolean really) {
        if (turn >= MOST_TURNS) {
            return;
        }
        boolean goesOn = workOut(statementX[s]) != 0;
        addLeak(goesOn ? LEAK_OF_TURN : LEAK_OF_END);
        if (goesOn) {
            planTurn(s, turn, really);
        }
    }

    private void planTurn(int s, int turn, boolean really) {
        plan(s, turn + 1, really);
        plan(statementY[s], 0, really);
    }

    private void print(int s, boolean really) {
        int value = workOut(statementX[s]);
        if (really) {
            addPrint(value);
        }
    }

    private void addPrint(int value) {
        if (printCount < OUTPUTS_KEPT) {
            prints[printCount] = value;
        }
        printCount++;
    }

    private void addLeak(int number) {
        if (leakCount < LEAKS_KEPT) {
            leaked[leakCount] = number;
        }
        leakCount++;
    }

    /** The values of parts wait in values, the latest highest, until what they are parts of comes. */
    private int workOut(int e) {
        int height = 0;
        for (int i = 0; i < expressionWeight[e]; i++) {
            int next = order[e * MOST_WEIGHT + i];
            height -= partsOf(next);
            values[height] = valueOf(next, height);
            height++;
        }
        return values[0];
    }

    private int partsOf(int e) {
        return (partX[e] == NONE ? 0 : 1) + (partY[e] == NONE ? 0 : 1)
                + (partZ[e] == NONE ? 0 : 1);
    }

    private int valueOf(int e, int height) {
        switch (expressionKind[e]) {
            case CONSTANT:
                return expressionOwn[e];
            case VARIABLE:
                return variables[expressionOwn[e]];
            case ELEMENT:
                int at = placeOf(expressionOwn[e], values[height]);
                addLeak(LEAK_OF_READING + at);
                return elements[at];
            case NOT:
                return ~values[height];
            case CHOOSE:
                return values[height] != 0 ? values[height + 1] : values[height + 2];
            default:
                return combine(expressionKind[e], values[height], values[height + 1]);
        }
    }

    private static int placeOf(int array, int i) {
        return array * ELEMENTS + (i & ELEMENTS - 1);
    }

    private static int combine(int kind, int x, int y) {
        switch (kind) {
            case PLUS:
                return x + y;
            case MINUS:
                return x - y;
            case TIMES:
                return x * y;
            case AND:
                return x & y;
            case OR:
                return x | y;
            case XOR:
                return x ^ y;
            case SHIFT_LEFT:
                return x << (y & 31);
            case SHIFT_RIGHT:
                return x >>> (y & 31);
            case LESS:
                return x < y ? 1 : 0;
            case EQUAL:
            default:
                return x == y ? 1 : 0;
        }
    }
}
