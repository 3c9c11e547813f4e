/** The boundary cases of promises 2 and 5 and of the terms on expressions, a sentence each. */
public final class ExpressEdgesTest {
    private static final int MIN = Bench.MIN;
    private static final int MAX = Bench.MAX;
    private static final int BAD = Bench.BAD;
    private static final int FULL = Bench.FULL;
    private static final int[] ODD = {MIN, -1, 0, 49, 50, MAX};
    private static final Checks CHECKS = new Checks("ExpressEdgesTest");
    private static final Twins TWINS = new Twins(CHECKS);

    private static final Bench B = new Bench(CHECKS);

    public static void main(String[] args) {
        fiftyAreThere();
        fiftyAreTestedFirst();
        kindOutside();
        anyIntInKind0();
        variablesInKind1();
        arraysInKind2();
        partsThatAreThere();
        partsAreEarlier();
        wrongPartsChangeNothing();
        operandsThatAKindDoesNotHave();
        unusedOperandsAddNothing();
        weightAbove30();
        weightCountsEachPart();
        weightIsTestedLast();
        tooHeavyChangesNothing();
        answersItsNumber();
        arithmeticWraps();
        shiftsBy31AtMost();
        elementsByTheLastThreeBits();
        lessWithoutWrap();
        equalAndTurnedOver();
        notZero();
        allThreePartsInOrder();
        deepestExpressions();
        secretParts();
        secretOfNone();
        CHECKS.end();
    }

    private static boolean hasX(int kind) {
        return kind >= 3;
    }

    private static boolean hasY(int kind) {
        return kind >= 2 && kind != 13;
    }

    private static boolean hasZ(int kind) {
        return kind == 14;
    }

    private static void fiftyAreThere() {
        B.sentence("2: 50 are there: FULL");
        for (int e = 0; e < 50; e++) {
            B.due(e, B.number(1000 + e));
        }
        B.due(FULL, B.number(0));
        B.due(FULL, B.ofVariable(0));
        B.due(FULL, B.express(14, 0, 0, 0));
        B.dueValue(0, 1000);
        B.dueValue(49, 1049);
        B.due(BAD, B.print(50));
        TWINS.refused(Twins::fullOfExpressions, FULL, b -> b.number(0));
        TWINS.refused(Twins::fullOfExpressions, FULL, b -> b.express(13, 1, 0, 0));
    }

    private static void fiftyAreTestedFirst() {
        B.sentence("2: tested in this order, 50 are there before all else");
        for (int e = 0; e < 49; e++) {
            B.due(e, B.number(e));
        }
        B.due(BAD, B.express(15, 0, 0, 0));
        B.due(BAD, B.express(-1, 0, 0, 0));
        B.due(BAD, B.express(1, 8, 0, 0));
        B.due(BAD, B.express(3, 49, 0, 0));
        B.due(BAD, B.express(3, 0, 49, 0));
        B.due(49, B.number(49));
        for (int kind : new int[] {-1, 15, MIN, MAX}) {
            B.due(FULL, B.express(kind, 0, 0, 0));
        }
        for (int wrong : new int[] {-1, 50, MIN, MAX}) {
            B.due(FULL, B.express(1, wrong, 0, 0));
            B.due(FULL, B.express(2, wrong, 0, 0));
            B.due(FULL, B.express(2, 0, wrong, 0));
            B.due(FULL, B.express(3, wrong, 0, 0));
            B.due(FULL, B.express(14, 0, 0, wrong));
        }
        TWINS.refused(Twins::fullOfExpressions, FULL, b -> b.express(15, 0, 0, 0));
        TWINS.refused(Twins::fullOfExpressions, FULL, b -> b.express(3, -1, 50, 0));
    }

    private static void kindOutside() {
        B.sentence("2: kind outside 0..14: BAD");
        B.due(0, B.express(0, 0, 0, 0));
        for (int kind = 1; kind <= 14; kind++) {
            B.due(kind, B.express(kind, 0, 0, 0));
        }
        for (int kind : new int[] {-1, 15, 16, -2, MIN, MIN + 1, MAX, MAX - 1, 256, 1 << 16}) {
            B.due(BAD, B.express(kind, 0, 0, 0));
            TWINS.refused(Twins::ordinary, BAD, b -> b.express(kind, 0, 0, 0));
        }
        B.due(15, B.number(0));
    }

    private static void anyIntInKind0() {
        B.sentence("2: x any int in kind 0");
        int e = 0;
        for (int any : new int[] {MIN, MIN + 1, -2, -1, 0, 1, 49, 50, MAX - 1, MAX}) {
            B.due(e, B.express(0, any, 0, 0));
            B.dueValue(e, any);
            e++;
        }
    }

    private static void variablesInKind1() {
        B.sentence("2: 0..7 in kind 1");
        for (int v = 0; v < 8; v++) {
            B.setVariable(v, 70 + v);
            B.due(v, B.express(1, v, 0, 0));
            B.dueValue(v, 70 + v);
        }
        for (int wrong : new int[] {-1, 8, 9, MIN, MAX}) {
            B.due(BAD, B.express(1, wrong, 0, 0));
            TWINS.refused(Twins::ordinary, BAD, b -> b.express(1, wrong, 0, 0));
        }
        B.due(8, B.number(0));
    }

    private static void arraysInKind2() {
        B.sentence("2: 0..1 in kind 2");
        B.setElement(0, 0, 60);
        B.setElement(1, 0, 61);
        B.due(0, B.number(0));
        B.due(1, B.express(2, 0, 0, 0));
        B.due(2, B.express(2, 1, 0, 0));
        B.dueValue(1, 60);
        B.dueValue(2, 61);
        for (int wrong : new int[] {-1, 2, 3, MIN, MAX}) {
            B.due(BAD, B.express(2, wrong, 0, 0));
            TWINS.refused(Twins::ordinary, BAD, b -> b.express(2, wrong, 0, 0));
        }
        B.due(3, B.number(0));
    }

    private static void partsThatAreThere() {
        B.sentence("2: x, y and z, where they are parts, an expression that is there");
        for (int kind = 2; kind <= 14; kind++) {
            B.fresh();
            B.due(BAD, B.express(kind, 0, 0, 0));
            B.due(0, B.number(5));
            B.due(1, B.express(kind, 0, 0, 0));
            B.due(2, B.number(5));
            for (int wrong : new int[] {-1, 3, 4, 49, 50, MIN, MAX}) {
                if (hasX(kind)) {
                    B.due(BAD, B.express(kind, wrong, 0, 0));
                }
                if (hasY(kind)) {
                    B.due(BAD, B.express(kind, 0, wrong, 0));
                }
                if (hasZ(kind)) {
                    B.due(BAD, B.express(kind, 0, 0, wrong));
                }
            }
            B.due(3, B.express(kind, hasX(kind) ? 2 : 1, hasY(kind) ? 2 : 0, hasZ(kind) ? 2 : 0));
            B.due(4, B.number(0));
        }
    }

    private static void partsAreEarlier() {
        B.sentence("Terms: parts that are earlier expressions, up to the latest one");
        B.due(0, B.number(1));
        for (int e = 1; e < 30; e++) {
            B.due(BAD, B.express(13, e, 0, 0));
            B.due(e, B.express(13, e - 1, 0, 0));
        }
        B.dueValue(28, 1);
        for (int e = 30; e < 49; e++) {
            B.due(e, B.number(e));
        }
        B.due(BAD, B.express(3, 49, 0, 0));
        B.due(BAD, B.express(3, 0, 49, 0));
        B.due(49, B.express(3, 48, 48, 0));
        B.dueValue(49, 96);
    }

    private static void wrongPartsChangeNothing() {
        B.sentence("2: x, y or z not as it must be: BAD, and nothing has changed");
        for (int kind = 2; kind <= 14; kind++) {
            int k = kind;
            for (int wrong : new int[] {-1, 11, MIN, MAX}) {
                if (hasX(kind)) {
                    TWINS.refused(Twins::ordinary, BAD, b -> b.express(k, wrong, 0, 0));
                }
                if (hasY(kind)) {
                    TWINS.refused(Twins::ordinary, BAD, b -> b.express(k, 0, wrong, 0));
                }
                if (hasZ(kind)) {
                    TWINS.refused(Twins::ordinary, BAD, b -> b.express(k, 0, 0, wrong));
                }
            }
        }
    }

    private static void operandsThatAKindDoesNotHave() {
        B.sentence("2: operands that a kind does not have play no part");
        int[] values = {12, 40, 50, 18, 6, 72, 4, 14, 10, 768, 0, 0, 0, -13};
        for (int kind = 0; kind <= 13; kind++) {
            B.fresh();
            B.setVariable(1, 40);
            B.setElement(1, 4, 50);
            B.due(0, B.number(12));
            B.due(1, B.number(6));
            int x = kind == 0 ? 12 : kind <= 2 ? 1 : 0;
            int e = 2;
            for (int odd : ODD) {
                int y = kind == 2 ? 0 : hasY(kind) ? 1 : odd;
                B.due(e, B.express(kind, x, y, odd));
                B.dueValue(e, values[kind]);
                e++;
            }
        }
    }

    private static void unusedOperandsAddNothing() {
        B.sentence("2: operands that a kind does not have add no weight, no secrecy, no leak");
        B.label(8, true);
        int zero = B.number(0);
        int heavy = B.reading(0, zero);
        for (int k = 0; k < 14; k++) {
            heavy = B.express(3, heavy, zero, 0);
        }
        B.due(15, heavy);
        B.due(FULL, B.express(3, heavy, zero, 0));
        B.due(true, B.secret(heavy));
        int next = heavy + 1;
        for (int kind = 0; kind <= 13; kind++) {
            B.due(next, B.express(kind, kind == 2 ? 1 : 0, hasY(kind) ? zero : heavy, heavy));
            B.due(false, B.secret(next));
            if (kind == 2) {
                B.dueLeaks(B.print(next), 24);
            } else {
                B.dueLeaks(B.print(next));
            }
            next++;
        }
    }

    private static void weightAbove30() {
        B.sentence("2: its weight would be above 30: FULL");
        B.chain();
        B.due(30, B.reading(0, 28));
        B.due(31, B.reading(1, 28));
        B.due(FULL, B.reading(0, 29));
        B.due(FULL, B.reading(1, 30));
        B.due(32, B.express(13, 28, 0, 0));
        B.due(FULL, B.express(13, 29, 0, 0));
        for (int kind = 3; kind <= 12; kind++) {
            B.fresh();
            B.chain();
            B.due(30, B.express(kind, 0, 27, 0));
            B.due(31, B.express(kind, 27, 0, 0));
            B.due(32, B.express(kind, 13, 14, 0));
            B.due(33, B.express(kind, 13, 13, 0));
            B.due(FULL, B.express(kind, 0, 28, 0));
            B.due(FULL, B.express(kind, 28, 0, 0));
            B.due(FULL, B.express(kind, 14, 14, 0));
            B.due(FULL, B.express(kind, 29, 29, 0));
            B.due(34, B.number(0));
        }
        B.fresh();
        B.chain();
        B.due(30, B.express(14, 26, 0, 0));
        B.due(31, B.express(14, 0, 26, 0));
        B.due(32, B.express(14, 0, 0, 26));
        B.due(33, B.express(14, 8, 9, 9));
        B.due(FULL, B.express(14, 27, 0, 0));
        B.due(FULL, B.express(14, 0, 27, 0));
        B.due(FULL, B.express(14, 0, 0, 27));
        B.due(FULL, B.express(14, 9, 9, 9));
        B.due(FULL, B.express(14, 29, 29, 29));
    }

    private static void weightCountsEachPart() {
        B.sentence("Terms: the weight is 1 plus the weights of its parts, a part twice counts twice");
        int w1 = B.ofVariable(0);
        int w3 = B.express(3, w1, w1, 0);
        int w7 = B.express(5, w3, w3, 0);
        int w15 = B.express(8, w7, w7, 0);
        B.due(FULL, B.express(3, w15, w15, 0));
        B.due(4, B.express(14, w15, w7, w7));
        B.due(5, B.express(14, w7, w7, w15));
        int w8 = B.reading(0, w7);
        B.due(6, w8);
        B.due(FULL, B.express(14, w15, w7, w8));
        B.due(FULL, B.express(14, w8, w15, w7));
        B.due(FULL, B.express(14, w7, w8, w15));
        B.due(7, B.express(3, w8, w15, 0));
    }

    private static void weightIsTestedLast() {
        B.sentence("2: tested in this order, what x, y and z must be before the weight");
        B.chain();
        for (int wrong : new int[] {-1, 30, MIN, MAX}) {
            B.due(BAD, B.express(2, wrong, 29, 0));
            B.due(BAD, B.express(3, wrong, 29, 0));
            B.due(BAD, B.express(3, 29, wrong, 0));
            B.due(BAD, B.express(14, wrong, 29, 29));
            B.due(BAD, B.express(14, 29, wrong, 29));
            B.due(BAD, B.express(14, 29, 29, wrong));
            B.due(BAD, B.express(wrong, 29, 29, 29));
        }
        B.due(FULL, B.express(14, 29, 29, 29));
    }

    private static void tooHeavyChangesNothing() {
        B.sentence("2: its weight would be above 30: FULL, and nothing has changed");
        TWINS.refused(Twins::heavyAndDeep, FULL, b -> b.reading(0, 41));
        TWINS.refused(Twins::heavyAndDeep, FULL, b -> b.express(3, 40, 0, 0));
        TWINS.refused(Twins::heavyAndDeep, FULL, b -> b.express(13, 41, 0, 0));
        TWINS.refused(Twins::heavyAndDeep, FULL, b -> b.express(14, 41, 41, 41));
        TWINS.refused(Twins::heavyAndDeep, BAD, b -> b.express(14, 41, 41, 42));
    }

    private static void answersItsNumber() {
        B.sentence("2: else answers its number, from 0, and a refused one takes none");
        for (int e = 0; e < 50; e++) {
            B.due(BAD, B.express(15, 0, 0, 0));
            B.due(BAD, B.express(3, e, e, 0));
            B.due(BAD, B.express(1, 8, 0, 0));
            B.due(e, B.number(-e));
        }
        B.due(FULL, B.number(0));
        for (int e : new int[] {0, 1, 48, 49}) {
            B.dueValue(e, -e);
        }
    }

    /** The value of a kind for the ints x and y. */
    private static void dueOf(int kind, int x, int y, int want) {
        B.fresh();
        int a = B.number(x);
        int b = B.number(y);
        B.dueValue(B.express(kind, a, b, 0), want);
    }

    private static void arithmeticWraps() {
        B.sentence("Terms: all arithmetic wraps as in Java");
        dueOf(3, MAX, 0, MAX);
        dueOf(3, MAX, 1, MIN);
        dueOf(3, MIN, -1, MAX);
        dueOf(3, MIN, MIN, 0);
        dueOf(3, MAX, MAX, -2);
        dueOf(3, MIN, MAX, -1);
        dueOf(4, MIN, 0, MIN);
        dueOf(4, MIN, 1, MAX);
        dueOf(4, MAX, -1, MIN);
        dueOf(4, 0, MIN, MIN);
        dueOf(4, -1, MIN, MAX);
        dueOf(4, MIN, MIN, 0);
        dueOf(4, MIN, MAX, 1);
        dueOf(5, MIN, -1, MIN);
        dueOf(5, MAX, -1, MIN + 1);
        dueOf(5, MAX, 2, -2);
        dueOf(5, MIN, 2, 0);
        dueOf(5, MAX, MAX, 1);
        dueOf(5, MIN, MIN, 0);
        dueOf(5, MIN, MAX, MIN);
        dueOf(5, 65536, 65536, 0);
        dueOf(5, 46341, 46341, -2147479015);
        dueOf(6, MIN, MAX, 0);
        dueOf(6, MIN, -1, MIN);
        dueOf(7, MIN, MAX, -1);
        dueOf(7, MIN, 0, MIN);
        dueOf(8, MIN, MAX, -1);
        dueOf(8, MIN, MIN, 0);
        dueOf(8, MIN, -1, MAX);
    }

    private static void shiftsBy31AtMost() {
        B.sentence("Terms: x << (y & 31), x >>> (y & 31)");
        int[] by = {0, 1, 31, 32, 33, 63, 64, -1, -31, -32, -33, MIN, MAX};
        int[] really = {0, 1, 31, 0, 1, 31, 0, 31, 1, 0, 31, 0, 31};
        int[] left = {1, 2, MIN};
        int[] right = {-1, MAX, 1};
        for (int k = 0; k < by.length; k++) {
            int at = really[k] == 31 ? 2 : really[k];
            dueOf(9, 1, by[k], left[at]);
            dueOf(10, -1, by[k], right[at]);
        }
        dueOf(9, MIN, 1, 0);
        dueOf(9, MAX, 1, -2);
        dueOf(9, MAX, 31, MIN);
        dueOf(9, -1, 31, MIN);
        dueOf(10, MIN, 1, 1 << 30);
        dueOf(10, MIN, 31, 1);
        dueOf(10, MIN, 0, MIN);
        dueOf(10, MAX, 31, 0);
        dueOf(10, MAX, 30, 1);
    }

    private static void elementsByTheLastThreeBits() {
        B.sentence("Terms: element (y & 7) of array x");
        int[] places = {0, 7, 8, 9, 15, 16, -1, -7, -8, -9, MIN, MIN + 1, MAX, MAX - 1, 256};
        int[] really = {0, 7, 0, 1, 7, 0, 7, 1, 0, 7, 0, 1, 7, 6, 0};
        for (int k = 0; k < places.length; k++) {
            B.fresh();
            for (int i = 0; i < 8; i++) {
                B.setElement(0, i, 30 + i);
                B.setElement(1, i, MIN + i);
            }
            int at = B.number(places[k]);
            B.dueValue(B.reading(0, at), 30 + really[k]);
            B.dueValue(B.reading(1, at), MIN + really[k]);
        }
    }

    private static void lessWithoutWrap() {
        B.sentence("Terms: 1 if x < y, else 0");
        dueOf(11, 0, 0, 0);
        dueOf(11, 0, 1, 1);
        dueOf(11, 1, 0, 0);
        dueOf(11, -1, 0, 1);
        dueOf(11, MIN, MIN, 0);
        dueOf(11, MAX, MAX, 0);
        dueOf(11, MIN, MAX, 1);
        dueOf(11, MAX, MIN, 0);
        dueOf(11, MIN, MIN + 1, 1);
        dueOf(11, MIN + 1, MIN, 0);
        dueOf(11, MAX - 1, MAX, 1);
        dueOf(11, MAX, MAX - 1, 0);
        dueOf(11, MIN, 1, 1);
        dueOf(11, MAX, -1, 0);
        dueOf(11, -2, MAX, 1);
    }

    private static void equalAndTurnedOver() {
        B.sentence("Terms: 1 if x = y, else 0");
        dueOf(12, 0, 0, 1);
        dueOf(12, 0, 1, 0);
        dueOf(12, MIN, MIN, 1);
        dueOf(12, MAX, MAX, 1);
        dueOf(12, MIN, MAX, 0);
        dueOf(12, MIN, 0, 0);
        dueOf(12, 0, MIN, 0);
        dueOf(12, 1, 1 << 16 | 1, 0);
        B.sentence("Terms: all bits of x turned over");
        dueOf(13, 0, 0, -1);
        dueOf(13, -1, 0, 0);
        dueOf(13, MIN, 0, MAX);
        dueOf(13, MAX, 0, MIN);
        dueOf(13, 1, 0, -2);
    }

    private static void notZero() {
        B.sentence("Terms: y if x is not 0, else z");
        int[] conditions = {0, 1, -1, 2, 256, 65536, MIN, MAX};
        for (int condition : conditions) {
            B.fresh();
            int x = B.number(condition);
            int y = B.number(MIN);
            int z = B.number(MAX);
            B.dueValue(B.express(14, x, y, z), condition == 0 ? MAX : MIN);
            B.dueValue(B.express(14, x, x, x), condition);
        }
    }

    private static void allThreePartsInOrder() {
        B.sentence("Terms: all three parts are worked out; in the order x, y, z");
        for (int value : new int[] {0, 1}) {
            B.fresh();
            B.setElement(0, 1, value);
            int x = B.reading(0, B.number(1));
            int y = B.reading(0, B.number(2));
            int z = B.reading(1, B.number(3));
            B.dueLeaks(B.print(B.express(14, x, y, z)), 17, 18, 27);
            B.dueLeaks(B.print(B.express(14, z, y, x)), 27, 18, 17);
            B.dueLeaks(B.print(B.express(14, x, x, x)), 17, 17, 17);
            for (int kind = 3; kind <= 12; kind++) {
                B.dueLeaks(B.print(B.express(kind, x, z, y)), 17, 27);
                B.dueLeaks(B.print(B.express(kind, z, x, y)), 27, 17);
            }
        }
    }

    /** The shapes in which the most values wait for others, at the greatest weight. */
    private static void deepestExpressions() {
        B.sentence("Terms: the weight is at most 30, also where all of it waits for the last part");
        int one = B.number(1);
        int last = B.number(5);
        int sum = last;
        for (int k = 0; k < 14; k++) {
            sum = B.express(3, one, sum, 0);
        }
        B.dueValue(sum, 19);
        B.due(FULL, B.express(3, one, sum, 0));
        int chosen = last;
        for (int k = 0; k < 9; k++) {
            chosen = B.express(14, B.number(0), one, chosen);
        }
        B.dueValue(chosen, 5);
        B.due(FULL, B.express(14, one, one, chosen));
    }

    private static void secretParts() {
        B.sentence("Terms: secret iff a secret variable, of a secret array, or with a secret part");
        B.label(7, true);
        B.label(9, true);
        int hidden = B.ofVariable(7);
        int open = B.ofVariable(6);
        B.due(true, B.secret(hidden));
        B.due(false, B.secret(open));
        B.due(false, B.secret(B.number(7)));
        B.due(false, B.secret(B.reading(0, open)));
        B.due(true, B.secret(B.reading(0, hidden)));
        B.due(true, B.secret(B.reading(1, open)));
        for (int kind = 3; kind <= 12; kind++) {
            B.due(false, B.secret(B.express(kind, open, open, hidden)));
            B.due(true, B.secret(B.express(kind, hidden, open, open)));
            B.due(true, B.secret(B.express(kind, open, hidden, open)));
        }
        B.due(false, B.secret(B.express(13, open, hidden, hidden)));
        B.due(true, B.secret(B.express(13, hidden, open, open)));
        B.due(false, B.secret(B.express(14, open, open, open)));
        B.due(true, B.secret(B.express(14, hidden, open, open)));
        B.due(true, B.secret(B.express(14, open, hidden, open)));
        B.due(true, B.secret(B.express(14, open, open, hidden)));

        B.sentence("Terms: a part of a part, down to the deepest");
        int e = B.ofVariable(0);
        for (int k = 1; k < 30; k++) {
            e = B.express(13, e, 0, 0);
        }
        for (int k = 0; k < 30; k++) {
            B.due(false, B.secret(k));
        }
        B.label(0, true);
        for (int k = 0; k < 30; k++) {
            B.due(true, B.secret(k));
        }
        B.label(0, false);
        B.due(false, B.secret(0));
        B.due(false, B.secret(e));
    }

    private static void secretOfNone() {
        B.sentence("5: false if there is none");
        for (int e : new int[] {-1, 0, 1, 49, 50, MIN, MAX}) {
            B.due(false, B.secret(e));
        }
        B.label(0, true);
        B.due(false, B.secret(0));
        for (int e = 0; e < 50; e++) {
            B.due(false, B.secret(e));
            B.due(e, B.ofVariable(0));
            B.due(true, B.secret(e));
            B.due(false, B.secret(e + 1));
        }
        for (int e : new int[] {-1, 50, 51, MIN, MAX}) {
            B.due(false, B.secret(e));
        }
        B.due(true, B.secret(0));
        B.due(true, B.secret(49));
        B.sentence("5: a refused expression is none");
        B.label(0, true);
        B.due(0, B.ofVariable(0));
        B.due(BAD, B.express(3, 0, 1, 0));
        B.due(false, B.secret(1));
    }
}
