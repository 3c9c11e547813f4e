/** The boundary cases of promise 3 and of the terms on how statements are made, a sentence each. */
public final class StateEdgesTest {
    private static final int MIN = Bench.MIN;
    private static final int MAX = Bench.MAX;
    private static final int BAD = Bench.BAD;
    private static final int FULL = Bench.FULL;
    private static final Checks CHECKS = new Checks("StateEdgesTest");
    private static final Twins TWINS = new Twins(CHECKS);

    private static final Bench B = new Bench(CHECKS);

    public static void main(String[] args) {
        fortyAreThere();
        fortyAreTestedFirst();
        kindOutside();
        variablesInKind0();
        arraysInKind1();
        timesInKind4();
        expressionsThatAreThere();
        statementsThatAreThere();
        expressionsAreNoStatements();
        wrongPartsChangeNothing();
        nothingForMinusOne();
        operandsThatAKindDoesNotHave();
        weightOfKinds0And1And6();
        weightOfKinds2And3();
        weightOfKinds4And5();
        weightCountsEachPart();
        threeWithinEachOther();
        withinThroughOthers();
        besideEachOther();
        weightAndLoopsAreTestedLast();
        tooHeavyOrDeepChangesNothing();
        answersItsNumber();
        CHECKS.end();
    }

    private static void fortyAreThere() {
        B.sentence("3: 40 are there: FULL");
        for (int e = 0; e < 40; e++) {
            B.due(e, B.number(500 + e));
        }
        for (int s = 0; s < 40; s++) {
            B.due(s, B.print(s));
        }
        B.due(FULL, B.print(0));
        B.due(FULL, B.state(0, 0, 0, 0));
        B.due(FULL, B.state(2, 0, 0, 0));
        B.dueOutput(0, 500);
        B.dueOutput(39, 539);
        B.due(true, B.safe(39));
        B.due(false, B.safe(40));
        TWINS.refused(Twins::fullOfStatements, FULL, b -> b.print(0));
        TWINS.refused(Twins::fullOfStatements, FULL, b -> b.state(0, 7, 0, 0));
    }

    private static void fortyAreTestedFirst() {
        B.sentence("3: tested in this order, 40 are there before all else");
        B.number(0);
        for (int s = 0; s < 39; s++) {
            B.due(s, B.print(0));
        }
        B.due(BAD, B.state(7, 0, 0, 0));
        B.due(BAD, B.state(-1, 0, 0, 0));
        B.due(BAD, B.state(0, 8, 0, 0));
        B.due(BAD, B.state(2, 39, 0, 0));
        B.due(39, B.state(2, 38, 38, 0));
        for (int kind : new int[] {-1, 7, MIN, MAX}) {
            B.due(FULL, B.state(kind, 0, 0, 0));
        }
        for (int wrong : new int[] {-2, 40, MIN, MAX}) {
            B.due(FULL, B.state(0, wrong, 0, 0));
            B.due(FULL, B.state(1, 0, 0, wrong));
            B.due(FULL, B.state(2, wrong, 0, 0));
            B.due(FULL, B.state(3, 0, 0, wrong));
            B.due(FULL, B.state(4, wrong, 0, 0));
            B.due(FULL, B.state(5, 0, wrong, 0));
            B.due(FULL, B.state(6, wrong, 0, 0));
        }
        TWINS.refused(Twins::fullOfStatements, FULL, b -> b.state(7, 0, 0, 0));
        TWINS.refused(Twins::fullOfStatements, FULL, b -> b.state(6, -1, 0, 0));
    }

    private static void kindOutside() {
        B.sentence("3: kind outside 0..6: BAD");
        B.number(0);
        B.number(0);
        B.due(0, B.state(0, 1, 0, 0));
        for (int kind = 1; kind <= 6; kind++) {
            B.due(kind, B.state(kind, 1, 0, 0));
        }
        for (int kind : new int[] {-1, 7, 8, -2, MIN, MIN + 1, MAX, MAX - 1, 256, 1 << 16}) {
            B.due(BAD, B.state(kind, 1, 0, 0));
            TWINS.refused(Twins::ordinary, BAD, b -> b.state(kind, 1, 0, 0));
        }
        B.due(7, B.print(0));
    }

    private static void variablesInKind0() {
        B.sentence("3: 0..7 for a variable");
        B.number(77);
        for (int v = 0; v < 8; v++) {
            B.due(v, B.state(0, v, 0, 0));
        }
        for (int v = 0; v < 8; v++) {
            B.due(0, B.variable(v));
            B.due(0, B.run(v));
            B.due(77, B.variable(v));
        }
        for (int wrong : new int[] {-1, 8, 9, MIN, MAX}) {
            B.due(BAD, B.state(0, wrong, 0, 0));
            TWINS.refused(Twins::ordinary, BAD, b -> b.state(0, wrong, 0, 0));
        }
        B.due(8, B.print(0));
    }

    private static void arraysInKind1() {
        B.sentence("3: 0..1 for an array");
        B.number(77);
        B.due(0, B.state(1, 0, 0, 0));
        B.due(1, B.state(1, 1, 0, 0));
        B.due(0, B.run(0));
        B.due(77, B.element(0, 5));
        B.due(0, B.element(1, 5));
        B.due(0, B.run(1));
        B.due(77, B.element(1, 5));
        for (int wrong : new int[] {-1, 2, 3, MIN, MAX}) {
            B.due(BAD, B.state(1, wrong, 0, 0));
            TWINS.refused(Twins::ordinary, BAD, b -> b.state(1, wrong, 0, 0));
        }
        B.due(2, B.print(0));
    }

    private static void timesInKind4() {
        B.sentence("3: 1..6 for x in kind 4");
        B.due(0, B.print(B.number(9)));
        for (int times = 1; times <= 6; times++) {
            B.due(times, B.state(4, times, 0, 0));
            B.due(0, B.run(times));
            B.due(times, B.printed());
        }
        for (int wrong : new int[] {0, 7, -1, 8, MIN, MAX}) {
            B.due(BAD, B.state(4, wrong, 0, 0));
            TWINS.refused(Twins::ordinary, BAD, b -> b.state(4, wrong, 0, 0));
        }
        B.due(7, B.print(0));
    }

    private static void expressionsThatAreThere() {
        B.sentence("3: an expression that is there");
        for (int kind : new int[] {0, 1, 6}) {
            B.due(BAD, B.state(kind, 0, 0, 0));
        }
        B.due(0, B.number(0));
        B.due(0, B.print(0));
        for (int kind : new int[] {0, 1, 3, 5, 6}) {
            B.due(true, B.state(kind, 0, 0, 0) > 0);
        }
        B.due(1, B.number(0));
        B.due(2, B.number(0));
        for (int wrong : new int[] {-1, 3, 4, 49, 50, MIN, MAX}) {
            B.due(BAD, B.state(0, 0, wrong, 0));
            B.due(BAD, B.state(1, 0, wrong, 0));
            B.due(BAD, B.state(1, 0, 0, wrong));
            B.due(BAD, B.state(3, wrong, 0, -1));
            B.due(BAD, B.state(3, wrong, 0, 0));
            B.due(BAD, B.state(5, wrong, 0, 0));
            B.due(BAD, B.state(6, wrong, 0, 0));
        }
        B.due(6, B.state(0, 0, 2, 0));
        B.due(7, B.state(1, 0, 2, 2));
        B.due(8, B.state(3, 2, 0, -1));
        B.due(9, B.state(5, 2, 0, 0));
        B.due(10, B.state(6, 2, 0, 0));
    }

    private static void statementsThatAreThere() {
        B.sentence("3: a statement that is there, up to the latest one");
        B.number(0);
        for (int kind = 2; kind <= 5; kind++) {
            B.due(BAD, B.state(kind, kind == 4 ? 1 : 0, 0, -1));
        }
        B.due(0, B.print(0));
        B.due(1, B.print(0));
        B.due(2, B.print(0));
        for (int wrong : new int[] {-1, 3, 4, 39, 40, MIN, MAX}) {
            B.due(BAD, B.state(2, wrong, 0, 0));
            B.due(BAD, B.state(2, 0, wrong, 0));
            B.due(BAD, B.state(3, 0, wrong, -1));
            B.due(BAD, B.state(3, 0, wrong, 0));
            B.due(BAD, B.state(4, 1, wrong, 0));
            B.due(BAD, B.state(5, 0, wrong, 0));
        }
        B.due(3, B.state(2, 2, 2, 0));
        B.due(4, B.state(3, 0, 3, 3));
        B.due(5, B.state(4, 1, 4, 0));
        B.due(6, B.state(5, 0, 5, 0));
        B.due(BAD, B.state(2, 7, 7, 0));
        B.due(BAD, B.state(3, 0, 0, 7));
    }

    private static void expressionsAreNoStatements() {
        B.sentence("3: else an expression or statement that is there, each in its own place");
        for (int e = 0; e < 5; e++) {
            B.number(0);
        }
        B.due(0, B.print(0));
        for (int e = 1; e < 5; e++) {
            B.due(BAD, B.state(2, e, 0, 0));
            B.due(BAD, B.state(2, 0, e, 0));
            B.due(BAD, B.state(3, 0, e, -1));
            B.due(BAD, B.state(3, 0, 0, e));
            B.due(BAD, B.state(4, 1, e, 0));
            B.due(BAD, B.state(5, 0, e, 0));
        }
        B.fresh();
        B.number(0);
        for (int s = 0; s < 5; s++) {
            B.due(s, B.print(0));
        }
        for (int s = 1; s < 5; s++) {
            B.due(BAD, B.state(0, 0, s, 0));
            B.due(BAD, B.state(1, 0, s, 0));
            B.due(BAD, B.state(1, 0, 0, s));
            B.due(BAD, B.state(3, s, 0, -1));
            B.due(BAD, B.state(5, s, 0, 0));
            B.due(BAD, B.state(6, s, 0, 0));
        }
    }

    private static void wrongPartsChangeNothing() {
        B.sentence("3: x, y or z not as it must be: BAD, and nothing has changed");
        for (int wrong : new int[] {-1, 11, MIN, MAX}) {
            TWINS.refused(Twins::ordinary, BAD, b -> b.state(0, 0, wrong, 0));
            TWINS.refused(Twins::ordinary, BAD, b -> b.state(1, 0, wrong, 0));
            TWINS.refused(Twins::ordinary, BAD, b -> b.state(1, 0, 0, wrong));
            TWINS.refused(Twins::ordinary, BAD, b -> b.state(3, wrong, 0, 0));
            TWINS.refused(Twins::ordinary, BAD, b -> b.state(5, wrong, 0, 0));
            TWINS.refused(Twins::ordinary, BAD, b -> b.state(6, wrong, 0, 0));
        }
        for (int wrong : new int[] {-1, 8, MIN, MAX}) {
            TWINS.refused(Twins::ordinary, BAD, b -> b.state(2, wrong, 0, 0));
            TWINS.refused(Twins::ordinary, BAD, b -> b.state(2, 0, wrong, 0));
            TWINS.refused(Twins::ordinary, BAD, b -> b.state(3, 0, wrong, 0));
            TWINS.refused(Twins::ordinary, BAD, b -> b.state(4, 1, wrong, 0));
            TWINS.refused(Twins::ordinary, BAD, b -> b.state(5, 0, wrong, 0));
        }
        for (int wrong : new int[] {-2, 8, MIN, MAX}) {
            TWINS.refused(Twins::ordinary, BAD, b -> b.state(3, 0, 0, wrong));
        }
    }

    private static void nothingForMinusOne() {
        B.sentence("3: z = -1 in kind 3 besides");
        B.due(0, B.ofVariable(0));
        B.due(0, B.print(0));
        B.due(1, B.state(3, 0, 0, -1));
        for (int wrong : new int[] {-2, -3, 2, MIN, MAX}) {
            B.due(BAD, B.state(3, 0, 0, wrong));
        }
        B.due(BAD, B.state(3, -1, 0, -1));
        B.due(BAD, B.state(3, 0, -1, -1));
        B.due(BAD, B.state(3, 0, -1, 0));
        B.due(BAD, B.state(1, 0, 0, -1));
        B.due(BAD, B.state(2, 0, -1, 0));
        B.due(BAD, B.state(4, 1, -1, 0));
        B.due(BAD, B.state(5, 0, -1, 0));
        B.due(2, B.state(3, 0, 0, 0));
        B.sentence("Terms: if e x is not 0 s y, else nothing for z = -1");
        B.ofVariable(0);
        B.due(0, B.print(0));
        B.due(1, B.state(3, 0, 0, -1));
        B.dueOutput(1);
        B.dueLeaks(1, 0);
        B.setVariable(0, MIN);
        B.dueOutput(1, MIN);
        B.dueLeaks(1, 1);
        B.sentence("Terms: nothing for z = -1 weighs nothing and holds no loop");
        B.chain();
        B.due(0, B.print(0));
        B.due(1, B.state(3, 26, 0, -1));
        B.due(FULL, B.state(3, 27, 0, -1));
        B.due(2, B.state(3, 0, 0, -1));
        B.due(3, loop(false, 2));
        B.due(4, loop(false, 3));
        B.due(5, loop(false, 4));
        B.due(FULL, loop(false, 5));
    }

    private static void operandsThatAKindDoesNotHave() {
        B.sentence("3: operands that a kind does not have play no part");
        B.chain();
        B.due(0, B.print(0));
        int s = 1;
        for (int odd : new int[] {MIN, -2, -1, 40, 50, MAX}) {
            B.due(s, B.state(0, 0, 0, odd));
            B.due(s + 1, B.state(2, 0, 0, odd));
            B.due(s + 2, B.state(4, 1, 0, odd));
            B.due(s + 3, B.state(5, 0, 0, odd));
            B.due(s + 4, B.state(6, 0, odd, odd));
            B.due(true, B.safe(s));
            B.dueOutput(s + 1, 0, 0);
            B.dueOutput(s + 2, 0);
            B.dueOutput(s + 3);
            B.dueOutput(s + 4, 0);
            s += 5;
        }
        B.sentence("3: operands that a kind does not have add no weight, no loop, no danger");
        B.chain();
        B.label(0, true);
        int hidden = B.ofVariable(0);
        B.due(30, hidden);
        B.due(0, B.print(0));
        B.due(1, B.state(4, 1, 0, 0));
        B.due(2, B.state(4, 1, 1, 0));
        B.due(3, B.state(4, 1, 2, 0));
        B.due(4, B.print(28));
        B.due(5, B.print(hidden));
        B.due(6, B.state(2, 0, 0, 3));
        B.due(7, B.state(4, 1, 6, 3));
        B.due(8, B.state(5, 0, 0, 3));
        B.due(9, B.state(5, 0, 8, 4));
        B.due(10, B.state(4, 1, 9, 5));
        B.due(11, B.state(0, 1, 28, 29));
        B.due(12, B.state(6, 28, 29, 29));
        B.due(13, B.state(0, 1, 0, hidden));
        B.due(14, B.state(6, 0, hidden, hidden));
        for (int each = 6; each <= 14; each++) {
            B.due(true, B.safe(each));
        }
    }

    private static void weightOfKinds0And1And6() {
        B.sentence("3: its weight would be above 30: FULL; kinds 0 and 6");
        B.chain();
        B.due(0, B.state(0, 0, 28, 0));
        B.due(FULL, B.state(0, 0, 29, 0));
        B.due(1, B.state(6, 28, 0, 0));
        B.due(FULL, B.state(6, 29, 0, 0));
        B.sentence("3: its weight would be above 30: FULL; kind 1");
        B.chain();
        B.due(0, B.state(1, 0, 0, 27));
        B.due(1, B.state(1, 1, 27, 0));
        B.due(2, B.state(1, 0, 13, 14));
        B.due(FULL, B.state(1, 0, 0, 28));
        B.due(FULL, B.state(1, 1, 28, 0));
        B.due(FULL, B.state(1, 0, 14, 14));
        B.due(FULL, B.state(1, 0, 29, 29));
        B.due(3, B.print(0));
    }

    private static void weightOfKinds2And3() {
        B.sentence("3: its weight would be above 30: FULL; kind 2");
        B.chain();
        int w2 = B.print(0);
        int w14 = B.print(12);
        int w15 = B.print(13);
        int w27 = B.print(25);
        int w28 = B.print(26);
        int w30 = B.print(28);
        B.due(6, B.state(2, w14, w15, 0));
        B.due(7, B.state(2, w2, w27, 0));
        B.due(8, B.state(2, w27, w2, 0));
        B.due(FULL, B.state(2, w15, w15, 0));
        B.due(FULL, B.state(2, w2, w28, 0));
        B.due(FULL, B.state(2, w28, w2, 0));
        B.due(FULL, B.state(2, w30, w30, 0));
        B.sentence("3: its weight would be above 30: FULL; kind 3");
        B.chain();
        B.due(w2, B.print(0));
        int w10 = B.print(8);
        int w11 = B.print(9);
        B.due(3, B.state(3, 8, w10, w10));
        B.due(FULL, B.state(3, 9, w10, w10));
        B.due(FULL, B.state(3, 8, w11, w10));
        B.due(FULL, B.state(3, 8, w10, w11));
        B.due(4, B.state(3, 7, w11, w10));
        B.due(5, B.state(3, 7, w10, w11));
        B.due(6, B.state(3, 26, w2, -1));
        B.due(FULL, B.state(3, 27, w2, -1));
        B.due(7, B.state(3, 18, w10, -1));
        B.due(FULL, B.state(3, 18, w11, -1));
        B.due(FULL, B.state(3, 29, w2, w2));
    }

    private static void weightOfKinds4And5() {
        B.sentence("3: its weight would be above 30: FULL; kinds 4 and 5");
        B.chain();
        int w2 = B.print(0);
        int w28 = B.print(26);
        int w29 = B.print(27);
        int w30 = B.print(28);
        B.due(4, B.state(4, 1, w29, 0));
        B.due(5, B.state(4, 6, w29, 0));
        B.due(FULL, B.state(4, 1, w30, 0));
        B.due(FULL, B.state(4, 6, w30, 0));
        B.due(6, B.state(5, 0, w28, 0));
        B.due(FULL, B.state(5, 0, w29, 0));
        B.due(FULL, B.state(5, 1, w28, 0));
        B.due(7, B.state(5, 26, w2, 0));
        B.due(FULL, B.state(5, 27, w2, 0));
        B.due(FULL, B.state(5, 29, w30, 0));
        B.due(8, B.print(0));
    }

    private static void weightCountsEachPart() {
        B.sentence("Terms: the weight is 1 plus the weights of its parts, a part twice counts twice");
        int one = B.number(4);
        int w2 = B.print(one);
        int w5 = B.state(2, w2, w2, 0);
        int w11 = B.state(2, w5, w5, 0);
        int w23 = B.state(2, w11, w11, 0);
        B.due(FULL, B.state(2, w23, w23, 0));
        B.due(4, B.state(2, w23, w5, 0));
        int w6 = B.state(4, 6, w5, 0);
        B.due(5, w6);
        B.due(6, B.state(2, w23, w6, 0));
        B.due(FULL, B.state(4, 1, 6, 0));
        B.due(FULL, B.state(3, one, 6, -1));
        int w7 = B.state(5, one, w5, 0);
        B.due(7, w7);
        B.due(FULL, B.state(2, w23, w7, 0));
        int w24 = B.state(4, 1, w23, 0);
        B.due(8, w24);
        B.due(9, B.state(2, w24, w5, 0));
        B.due(FULL, B.state(2, w24, w6, 0));
        B.due(10, B.state(3, one, w11, w11));
    }

    /** A loop around s: of kind 4, or of kind 5 with expression 0. */
    private static int loop(boolean ofKind5, int s) {
        return ofKind5 ? B.state(5, 0, s, 0) : B.state(4, 1, s, 0);
    }

    private static void threeWithinEachOther() {
        B.sentence("3: more than 3 statements of kinds 4 and 5 within each other: FULL");
        for (int kinds = 0; kinds < 8; kinds++) {
            B.fresh();
            B.number(0);
            B.due(0, B.print(0));
            B.due(1, loop((kinds & 1) != 0, 0));
            B.due(2, loop((kinds & 2) != 0, 1));
            B.due(3, loop((kinds & 4) != 0, 2));
            B.due(FULL, loop(false, 3));
            B.due(FULL, loop(true, 3));
            B.due(FULL, B.state(4, 6, 3, 0));
            B.due(4, loop(false, 1));
            B.due(5, loop(true, 2));
            B.due(6, loop(true, 0));
        }
    }

    private static void withinThroughOthers() {
        B.sentence("Terms: within also as a part of a part, and so on");
        for (int way = 0; way < 4; way++) {
            B.fresh();
            B.number(0);
            B.due(0, B.print(0));
            int s = 0;
            for (int loops = 1; loops <= 3; loops++) {
                s = wrapped(way, loop(loops == 2, s));
                B.due(true, s > 0);
            }
            B.due(FULL, loop(false, s));
            B.due(FULL, loop(true, s));
            B.due(7, wrapped(way, s));
            B.due(FULL, loop(false, 7));
            B.due(FULL, loop(true, 7));
            B.due(8, B.print(0));
        }
    }

    /** A statement of kind 2 or 3 in which s is x, y or z. */
    private static int wrapped(int way, int s) {
        return switch (way) {
            case 0 -> B.state(2, s, 0, 0);
            case 1 -> B.state(2, 0, s, 0);
            case 2 -> B.state(3, 0, s, -1);
            default -> B.state(3, 0, 0, s);
        };
    }

    private static void besideEachOther() {
        B.sentence("Terms: loops beside each other are not within each other");
        B.number(0);
        int plain = B.print(0);
        int one = loop(false, plain);
        int two = loop(true, one);
        int three = loop(false, two);
        B.due(3, three);
        B.due(4, B.state(2, three, three, 0));
        B.due(5, B.state(3, 0, three, three));
        B.due(6, B.state(2, two, two, 0));
        B.due(7, loop(false, 6));
        B.due(FULL, loop(false, 7));
        B.due(8, B.state(2, one, two, 0));
        B.due(9, loop(true, 8));
        B.due(FULL, loop(true, 9));
        B.due(10, B.state(3, 0, one, one));
        B.due(11, loop(false, 10));
        B.due(12, loop(false, 11));
        B.due(FULL, loop(false, 12));
        B.due(FULL, loop(false, 4));
        B.due(FULL, loop(false, 5));
    }

    private static void weightAndLoopsAreTestedLast() {
        B.sentence("3: tested in this order, what x, y and z must be before weight and loops");
        B.chain();
        int plain = B.print(0);
        int three = loop(false, loop(false, loop(false, plain)));
        int w30 = B.print(28);
        for (int wrong : new int[] {-1, 30, MIN, MAX}) {
            B.due(BAD, B.state(0, wrong, 29, 0));
            B.due(BAD, B.state(1, wrong, 29, 29));
            B.due(BAD, B.state(1, 0, wrong, 29));
            B.due(BAD, B.state(1, 0, 29, wrong));
            B.due(BAD, B.state(2, wrong, w30, 0));
            B.due(BAD, B.state(2, w30, wrong, 0));
            B.due(BAD, B.state(3, wrong, w30, w30));
            B.due(BAD, B.state(3, 29, wrong, w30));
            B.due(BAD, B.state(3, 29, w30, wrong == -1 ? -2 : wrong));
            B.due(BAD, B.state(4, wrong, three, 0));
            B.due(BAD, B.state(4, wrong, w30, 0));
            B.due(BAD, B.state(5, wrong, three, 0));
            B.due(BAD, B.state(5, 29, wrong, 0));
            B.due(BAD, B.state(wrong, 0, three, 0));
        }
        B.due(BAD, B.state(4, 0, three, 0));
        B.due(BAD, B.state(4, 7, three, 0));
        B.due(FULL, B.state(5, 29, three, 0));
        B.due(FULL, B.state(3, 29, w30, w30));
    }

    private static void tooHeavyOrDeepChangesNothing() {
        B.sentence("3: above 30, or more than 3 within each other: FULL, and nothing has changed");
        TWINS.refused(Twins::heavyAndDeep, FULL, b -> b.state(0, 0, 41, 0));
        TWINS.refused(Twins::heavyAndDeep, FULL, b -> b.state(1, 0, 41, 41));
        TWINS.refused(Twins::heavyAndDeep, FULL, b -> b.state(3, 41, 0, -1));
        TWINS.refused(Twins::heavyAndDeep, FULL, b -> b.state(5, 41, 0, 0));
        TWINS.refused(Twins::heavyAndDeep, FULL, b -> b.state(6, 41, 0, 0));
        TWINS.refused(Twins::heavyAndDeep, FULL, b -> b.state(4, 1, 10, 0));
        TWINS.refused(Twins::heavyAndDeep, FULL, b -> b.state(5, 0, 10, 0));
        TWINS.refused(Twins::heavyAndDeep, BAD, b -> b.state(4, 7, 10, 0));
    }

    private static void answersItsNumber() {
        B.sentence("3: else answers its number, from 0, and a refused one takes none");
        B.number(8);
        for (int s = 0; s < 40; s++) {
            B.due(BAD, B.state(7, 0, 0, 0));
            B.due(BAD, B.state(2, s, s, 0));
            B.due(BAD, B.state(6, 1, 0, 0));
            B.due(s, B.state(0, s & 7, 0, 0));
        }
        B.due(FULL, B.print(0));
        for (int s : new int[] {0, 39}) {
            B.setVariable(s & 7, 1);
            B.due(0, B.run(s));
            B.due(8, B.variable(s & 7));
        }
    }
}
