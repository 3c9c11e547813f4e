/** The boundary cases of promises 7 to 11 and 17 and of the terms on runs, a sentence each. */
public final class RunEdgesTest {
    private static final int MIN = Bench.MIN;
    private static final int MAX = Bench.MAX;
    private static final int BAD = Bench.BAD;
    private static final int FULL = Bench.FULL;
    private static final int UNSAFE = Bench.UNSAFE;
    private static final int OK = Bench.OK;
    private static final int[] CONDITIONS = {0, 1, -1, 2, 256, 1 << 16, MIN, MAX};
    private static final Checks CHECKS = new Checks("RunEdgesTest");
    private static final Twins TWINS = new Twins(CHECKS);

    private static final Bench B = new Bench(CHECKS);

    public static void main(String[] args) {
        runOfNone();
        runOfUnsafe();
        noneIsTestedFirst();
        outputAndLeaksAreMadeEmpty();
        leaksBeforeAny();
        howManyLeaked();
        theMostLeaks();
        leakOfNone();
        leakAbove199();
        howManyPrinted();
        theMostPrinted();
        outputOfNone();
        outputAbove19();
        assignEdges();
        storeWraps();
        storeOrder();
        sequenceOrder();
        ifWithPublicX();
        ifWithSecretX();
        repeatFrom1To6();
        asLongAsAtMost6();
        asLongAsWithReadings();
        loopsWithinLoops();
        loopsWithinOthers();
        deepestStatements();
        leaksOfReading();
        leaksOfWriting();
        seeminglyChangesNothing();
        seeminglyWithinSeemingly();
        secretXLeaksItsReadings();
        CHECKS.end();
    }

    private static void runOfNone() {
        B.sentence("7: there is none: BAD");
        for (int s : new int[] {-1, 0, 1, 39, 40, MIN, MAX}) {
            B.due(BAD, B.run(s));
        }
        B.number(0);
        for (int s = 0; s < 40; s++) {
            B.due(BAD, B.run(s));
            B.due(s, B.print(0));
            B.due(OK, B.run(s));
            B.due(BAD, B.run(s + 1));
        }
        for (int s : new int[] {-1, 40, 41, MIN, MAX}) {
            B.due(BAD, B.run(s));
        }
        B.sentence("7: there is none: nothing happens");
        for (int s : new int[] {-1, 8, 39, 40, MIN, MAX}) {
            TWINS.refused(Twins::ordinary, BAD, b -> b.run(s));
        }
        for (int s : new int[] {-1, 40, 41, MIN, MAX}) {
            TWINS.refused(Twins::fullOfStatements, BAD, b -> b.run(s));
        }
    }

    private static void runOfUnsafe() {
        B.sentence("7: it is not safe in an open place: UNSAFE; nothing happens");
        TWINS.refused(Twins::ordinary, UNSAFE, b -> b.run(6));
        TWINS.refused(RunEdgesTest::withDanger, UNSAFE, b -> b.run(8));
        TWINS.refused(RunEdgesTest::withDanger, UNSAFE, b -> b.run(9));
        TWINS.refused(RunEdgesTest::withDanger, UNSAFE, b -> b.run(10));
        TWINS.refused(RunEdgesTest::withDanger, UNSAFE, b -> b.run(11));
        B.sentence("7: not safe, then safe by label, then not safe again");
        B.setVariable(0, 5);
        int s = B.state(0, 1, B.ofVariable(0), 0);
        B.label(0, true);
        B.due(UNSAFE, B.run(s));
        B.due(0, B.variable(1));
        B.label(1, true);
        B.due(OK, B.run(s));
        B.due(5, B.variable(1));
        B.setVariable(0, 6);
        B.label(1, false);
        B.due(UNSAFE, B.run(s));
        B.due(5, B.variable(1));
    }

    /** Statements 8 to 11 are not safe, though what they would do first is. */
    private static void withDanger(Bench b) {
        Twins.ordinary(b);
        b.state(2, 5, 6, 0);
        b.state(0, 0, 1, 0);
        b.state(3, 1, 1, -1);
        b.state(4, 6, 8, 0);
    }

    private static void noneIsTestedFirst() {
        B.sentence("7: tested in this order: none, then not safe");
        B.label(0, true);
        B.ofVariable(0);
        B.due(0, B.print(0));
        B.due(BAD, B.run(1));
        B.due(UNSAFE, B.run(0));
        B.due(BAD, B.run(-1));
        B.due(BAD, B.run(MIN));
        B.due(BAD, B.run(MAX));
    }

    private static void outputAndLeaksAreMadeEmpty() {
        B.sentence("7: else the output and the list of what is leaked are made empty first");
        int many = leaking(3);
        int prints = printing(3);
        int nothing = B.state(0, 7, B.number(1), 0);
        B.due(OK, B.run(many));
        B.due(201, B.leaks());
        B.due(OK, B.run(prints));
        B.due(21, B.printed());
        B.due(0, B.leaks());
        B.due(BAD, B.leak(0));
        B.due(BAD, B.leak(199));
        B.due(OK, B.run(nothing));
        B.due(0, B.printed());
        B.due(0, B.output(0));
        B.due(0, B.output(19));
        B.due(0, B.leaks());
        B.dueOutput(B.print(B.number(4)), 4);
    }

    private static void leaksBeforeAny() {
        B.sentence("8: 0 before any");
        B.due(0, B.leaks());
        B.due(BAD, B.run(0));
        B.due(0, B.leaks());
        B.label(0, true);
        B.print(B.ofVariable(0));
        B.due(UNSAFE, B.run(0));
        B.due(0, B.leaks());
        for (int k : new int[] {-1, 0, 1, 199, 200, MIN, MAX}) {
            B.due(BAD, B.leak(k));
        }
    }

    /**
     * A statement that leaks 198 numbers and more besides: the first 198 are 16, then come 29, 30
     * and 31. It takes array 1 for the places of the latter.
     */
    private static int leaking(int more) {
        B.setElement(1, 5, 6);
        B.setElement(1, 6, 7);
        int e = B.number(0);
        for (int k = 0; k < 11; k++) {
            e = B.reading(0, e);
        }
        int many = B.state(4, 6, B.state(4, 3, B.state(0, 0, e, 0), 0), 0);
        int last = B.number(5);
        for (int k = 0; k < more; k++) {
            last = B.reading(1, last);
        }
        return B.state(2, many, B.state(0, 0, last, 0), 0);
    }

    private static void howManyLeaked() {
        B.sentence("8: how many numbers the latest run leaked, also above 200");
        for (int more = 0; more <= 3; more++) {
            B.fresh();
            int s = leaking(more);
            B.due(OK, B.run(s));
            B.due(198 + more, B.leaks());
            B.due(OK, B.run(s));
            B.due(198 + more, B.leaks());
        }
    }

    private static void theMostLeaks() {
        B.sentence("8: how many, in the longest run");
        int e = B.number(3);
        for (int k = 0; k < 25; k++) {
            e = B.reading(1, e);
        }
        int s = B.print(e);
        for (int k = 0; k < 3; k++) {
            s = B.state(4, 6, s, 0);
        }
        B.due(FULL, B.state(3, 0, s, -1));
        B.due(OK, B.run(s));
        B.due(5400, B.leaks());
        for (int k = 0; k < 200; k++) {
            B.due(k % 25 == 0 ? 27 : 24, B.leak(k));
        }
        for (int k : new int[] {200, 5399, 5400, MAX}) {
            B.due(BAD, B.leak(k));
        }
        B.due(216, B.printed());
    }

    private static void leakOfNone() {
        B.sentence("9: BAD if there is none");
        int e = B.number(2);
        int none = B.print(e);
        int one = B.print(B.reading(0, e));
        int two = B.state(1, 1, e, B.reading(0, e));
        B.dueLeaks(two, 18, 42);
        for (int k : new int[] {-1, -2, 2, 3, 198, 199, 200, MIN, MAX}) {
            B.due(BAD, B.leak(k));
        }
        B.dueLeaks(one, 18);
        for (int k : new int[] {-1, 1, 2, MIN, MAX}) {
            B.due(BAD, B.leak(k));
        }
        B.dueLeaks(none);
        for (int k : new int[] {-1, 0, 1, MIN, MAX}) {
            B.due(BAD, B.leak(k));
        }
    }

    private static void leakAbove199() {
        B.sentence("9: BAD if k is above 199");
        for (int more = 0; more <= 3; more++) {
            B.fresh();
            B.due(OK, B.run(leaking(more)));
            B.due(16, B.leak(0));
            B.due(16, B.leak(197));
            B.due(more >= 1 ? 29 : BAD, B.leak(198));
            B.due(more >= 2 ? 30 : BAD, B.leak(199));
            for (int k : new int[] {200, 201, 202, -1, MIN, MAX}) {
                B.due(BAD, B.leak(k));
            }
        }
    }

    /** A statement that prints 18 ints and more besides: 4, 5, 6 and so on. */
    private static int printing(int more) {
        B.setVariable(6, 4);
        int e = B.ofVariable(6);
        int count = B.state(0, 6, B.express(4, e, B.number(-1), 0), 0);
        int one = B.state(2, B.print(e), count, 0);
        int s = B.state(4, 6, B.state(4, 3, one, 0), 0);
        return more == 0 ? s : B.state(2, s, B.state(4, more, one, 0), 0);
    }

    private static void howManyPrinted() {
        B.sentence("10: the number of ints in the output, also above 20");
        B.due(0, B.printed());
        for (int more = 0; more <= 3; more++) {
            B.fresh();
            int s = printing(more);
            B.due(0, B.printed());
            B.due(OK, B.run(s));
            B.due(18 + more, B.printed());
            B.due(OK, B.run(s));
            B.due(18 + more, B.printed());
        }
    }

    private static void theMostPrinted() {
        B.sentence("10: the number of ints in the longest output");
        int one = B.print(B.number(MIN));
        int s = one;
        for (int k = 1; k < 9; k++) {
            s = B.state(2, s, one, 0);
        }
        for (int k = 0; k < 3; k++) {
            s = B.state(4, 6, s, 0);
        }
        B.due(11, s);
        B.due(OK, B.run(s));
        B.due(1944, B.printed());
        B.due(0, B.leaks());
        B.due(MIN, B.output(0));
        B.due(MIN, B.output(19));
        for (int k : new int[] {20, 1943, 1944, -1, MIN, MAX}) {
            B.due(0, B.output(k));
        }
    }

    private static void outputOfNone() {
        B.sentence("11: 0 if there is none");
        for (int k : new int[] {-1, 0, 1, 19, 20, MIN, MAX}) {
            B.due(0, B.output(k));
        }
        int one = B.print(B.number(MAX));
        int two = B.state(2, one, B.print(B.number(MIN)), 0);
        B.dueOutput(two, MAX, MIN);
        for (int k : new int[] {-1, 2, 18, 19, 20, MIN, MAX}) {
            B.due(0, B.output(k));
        }
        B.dueOutput(one, MAX);
        for (int k : new int[] {-1, 1, MIN, MAX}) {
            B.due(0, B.output(k));
        }
        B.dueOutput(B.state(0, 0, 0, 0));
        B.due(0, B.output(0));
    }

    private static void outputAbove19() {
        B.sentence("11: 0 if k is above 19");
        for (int more = 0; more <= 3; more++) {
            B.fresh();
            B.due(OK, B.run(printing(more)));
            for (int k = 0; k < 18; k++) {
                B.due(4 + k, B.output(k));
            }
            B.due(more >= 1 ? 22 : 0, B.output(18));
            B.due(more >= 2 ? 23 : 0, B.output(19));
            for (int k : new int[] {20, 21, -1, MIN, MAX}) {
                B.due(0, B.output(k));
            }
        }
    }

    private static void assignEdges() {
        B.sentence("Terms: variable x becomes e y, an int; it outlasts runs");
        int s = 0;
        for (int value : new int[] {MIN, MAX, -1, 0, 1}) {
            for (int v : new int[] {0, 7}) {
                B.due(s, B.state(0, v, B.number(value), 0));
                B.due(OK, B.run(s));
                B.due(value, B.variable(v));
                B.due(OK, B.run(B.print(0)));
                B.due(value, B.variable(v));
                s += 2;
            }
        }
    }

    private static void storeWraps() {
        B.sentence("Terms: element (e y & 7) of array x becomes e z");
        int[] places = {0, 7, 8, 9, 15, -1, -7, -8, -9, MIN, MIN + 1, MAX, MAX - 1};
        int[] really = {0, 7, 0, 1, 7, 7, 1, 0, 7, 0, 1, 7, 6};
        for (int k = 0; k < places.length; k++) {
            for (int array = 0; array < 2; array++) {
                B.fresh();
                int s = B.state(1, array, B.number(places[k]), B.number(MIN));
                B.dueLeaks(s, 32 + 8 * array + really[k]);
                for (int i = 0; i < 8; i++) {
                    B.due(i == really[k] ? MIN : 0, B.element(array, i));
                    B.due(0, B.element(1 - array, i));
                }
            }
        }
    }

    private static void storeOrder() {
        B.sentence("Terms: y is worked out before z; the writing is leaked after z");
        B.setElement(0, 1, 3);
        B.setElement(1, 2, MAX);
        int y = B.reading(0, B.number(1));
        int z = B.reading(1, B.number(2));
        B.dueLeaks(B.state(1, 0, y, z), 17, 26, 35);
        B.due(MAX, B.element(0, 3));
        B.dueLeaks(B.state(1, 1, z, y), 26, 17, 47);
        B.due(3, B.element(1, 7));
        B.sentence("Terms: what is written where it is read is read first");
        B.setElement(0, 4, 4);
        int own = B.reading(0, B.number(4));
        B.dueLeaks(B.state(1, 0, own, B.express(3, own, own, 0)), 20, 20, 20, 36);
        B.due(8, B.element(0, 4));
    }

    private static void sequenceOrder() {
        B.sentence("Terms: s x, then s y");
        int v = B.ofVariable(0);
        int add = B.state(0, 0, B.express(3, v, B.number(1), 0), 0);
        int twice = B.state(0, 0, B.express(3, v, v, 0), 0);
        int print = B.print(v);
        B.dueOutput(B.state(2, B.state(2, add, twice, 0), print, 0), 2);
        B.dueOutput(B.state(2, B.state(2, twice, add, 0), print, 0), 5);
        B.dueOutput(B.state(2, print, B.state(2, print, add, 0), 0), 5, 5);
        B.due(6, B.variable(0));
        B.dueOutput(B.state(2, add, add, 0));
        B.due(8, B.variable(0));
    }

    private static void ifWithPublicX() {
        B.sentence("Terms: kind 3 with public x: 1 is leaked if x is not 0, else 0; y or z");
        int v = B.ofVariable(0);
        int y = B.state(2, B.print(B.number(7)), B.state(0, 0, B.number(0), 0), 0);
        int z = B.state(2, B.print(B.number(8)), B.state(0, 0, B.number(1), 0), 0);
        int both = B.state(3, v, y, z);
        int onlyY = B.state(3, v, y, -1);
        for (int condition : CONDITIONS) {
            B.setVariable(0, condition);
            B.dueLeaks(both, condition == 0 ? 0 : 1);
            B.due(condition == 0 ? 1 : 0, B.variable(0));
            B.setVariable(0, condition);
            B.dueOutput(both, condition == 0 ? 8 : 7);
            B.setVariable(0, condition);
            B.dueLeaks(onlyY, condition == 0 ? 0 : 1);
            B.due(0, B.variable(0));
            B.due(condition == 0 ? 0 : 1, B.printed());
        }
    }

    private static void ifWithSecretX() {
        B.sentence("Terms: kind 3 with secret x: nothing is leaked for x; y, then z; one seemingly");
        for (int v = 0; v < 3; v++) {
            B.label(v, true);
        }
        B.label(8, true);
        int v = B.ofVariable(0);
        int y = B.state(2, B.state(0, 0, B.number(0), 0), B.state(1, 0, B.number(1), v), 0);
        int z = B.state(2, B.state(0, 0, B.number(1), 0), B.state(1, 0, B.number(2), v), 0);
        int both = B.state(3, v, y, z);
        int onlyY = B.state(3, v, y, -1);
        for (int condition : CONDITIONS) {
            boolean first = condition != 0;
            B.setVariable(0, condition);
            B.setElement(0, 1, 50);
            B.setElement(0, 2, 60);
            B.dueLeaks(both, 33, 34);
            B.due(first ? 0 : 1, B.variable(0));
            B.due(first ? 0 : 50, B.element(0, 1));
            B.due(first ? 60 : 1, B.element(0, 2));
            B.setVariable(0, condition);
            B.setElement(0, 1, 50);
            B.dueLeaks(onlyY, 33);
            B.due(0, B.variable(0));
            B.due(first ? 0 : 50, B.element(0, 1));
        }
    }

    private static void repeatFrom1To6() {
        B.sentence("Terms: s y is executed x times (x from 1 to 6)");
        int v = B.ofVariable(0);
        int add = B.state(0, 0, B.express(3, v, B.number(1), 0), 0);
        for (int times = 1; times <= 6; times++) {
            int s = B.state(4, times, add, 0);
            B.setVariable(0, MAX);
            B.dueLeaks(s);
            B.due(MIN + times - 1, B.variable(0));
        }
    }

    private static void asLongAsAtMost6() {
        B.sentence("Terms: as long as e x is not 0, but at most 6 times; 3 is leaked, else 2");
        int v = B.ofVariable(0);
        int less = B.state(0, 0, B.express(4, v, B.number(1), 0), 0);
        int s = B.state(5, v, B.state(2, B.print(v), less, 0), 0);
        B.dueLeaks(s, 2);
        B.dueOutput(s);
        int[] starts = {1, 2, 5, 6, 7, MAX, MIN, -1};
        int[] turns = {1, 2, 5, 6, 6, 6, 6, 6};
        for (int k = 0; k < starts.length; k++) {
            B.setVariable(0, starts[k]);
            B.due(OK, B.run(s));
            B.due(turns[k], B.printed());
            B.due(starts[k] - turns[k], B.variable(0));
            B.due(turns[k] < 6 ? turns[k] + 1 : 6, B.leaks());
            for (int turn = 0; turn < turns[k]; turn++) {
                B.due(3, B.leak(turn));
                B.due(starts[k] - turn, B.output(turn));
            }
            B.due(turns[k] < 6 ? 2 : BAD, B.leak(turns[k]));
        }
    }

    private static void asLongAsWithReadings() {
        B.sentence("Terms: after 6 times of s y it is not worked out again");
        int x = B.reading(1, B.number(4));
        int s = B.state(5, x, B.state(0, 0, B.number(0), 0), 0);
        B.dueLeaks(s, 28, 2);
        B.setElement(1, 4, MIN);
        B.dueLeaks(s, 28, 3, 28, 3, 28, 3, 28, 3, 28, 3, 28, 3);
        B.sentence("Terms: each time x is worked out anew");
        int place = B.ofVariable(0);
        int read = B.reading(0, place);
        int step = B.state(0, 0, B.express(3, place, B.number(1), 0), 0);
        int loop = B.state(5, read, step, 0);
        for (int i = 0; i < 5; i++) {
            B.setElement(0, i, 1);
        }
        B.dueLeaks(loop, 16, 3, 17, 3, 18, 3, 19, 3, 20, 3, 21, 2);
        B.due(5, B.variable(0));
        B.setElement(0, 5, 1);
        B.setVariable(0, 0);
        B.dueLeaks(loop, 16, 3, 17, 3, 18, 3, 19, 3, 20, 3, 21, 3);
        B.due(6, B.variable(0));
    }

    private static void loopsWithinLoops() {
        B.sentence("Terms: each loop within a loop counts its times from the start again");
        for (int kinds = 0; kinds < 8; kinds++) {
            B.fresh();
            int v = B.ofVariable(0);
            int one = B.number(1);
            int s = B.state(0, 0, B.express(3, v, one, 0), 0);
            int leaks = 0;
            for (int k = 0; k < 3; k++) {
                boolean asLongAs = (kinds >> k & 1) != 0;
                s = asLongAs ? B.state(5, one, s, 0) : B.state(4, 6, s, 0);
                leaks = 6 * leaks + (asLongAs ? 6 : 0);
            }
            B.due(OK, B.run(s));
            B.due(216, B.variable(0));
            B.due(leaks, B.leaks());
            B.due(OK, B.run(s));
            B.due(432, B.variable(0));
            B.due(leaks, B.leaks());
        }
    }

    private static void loopsWithinOthers() {
        B.sentence("Terms: a loop within statements 2 and 3 is executed as often as by itself");
        int v = B.ofVariable(0);
        int one = B.number(1);
        int none = B.number(0);
        int add = B.state(0, 0, B.express(3, v, one, 0), 0);
        for (int loop : new int[] {B.state(4, 1, add, 0), B.state(4, 6, add, 0),
            B.state(5, one, add, 0)}) {
            int times = loop == 1 ? 1 : 6;
            dueTimes(B.state(2, loop, add, 0), times + 1);
            dueTimes(B.state(2, add, loop, 0), times + 1);
            dueTimes(B.state(3, one, loop, -1), times);
            dueTimes(B.state(3, one, loop, add), times);
            dueTimes(B.state(3, none, add, loop), times);
            dueTimes(B.state(3, none, loop, -1), 0);
        }
        B.label(0, true);
        B.label(1, true);
        int hidden = B.ofVariable(1);
        for (int loop = 1; loop <= 2; loop++) {
            B.setVariable(1, MIN);
            dueTimes(B.state(3, hidden, loop, -1), loop == 1 ? 1 : 6);
            B.setVariable(1, 0);
            dueTimes(B.state(3, hidden, add, loop), loop == 1 ? 1 : 6);
        }
    }

    /** Variable 0 counts how often 1 is added to it. */
    private static void dueTimes(int s, int times) {
        B.setVariable(0, MAX);
        B.due(OK, B.run(s));
        B.due(MAX + times, B.variable(0));
    }

    /** The shapes in which the most statements wait for others, at the greatest weight. */
    private static void deepestStatements() {
        B.sentence("Terms: the weight is at most 30, also where all of it waits for the first part");
        int v = B.ofVariable(0);
        int print = B.print(v);
        int s = print;
        for (int k = 0; k < 9; k++) {
            s = B.state(2, s, print, 0);
        }
        B.due(FULL, B.state(2, s, print, 0));
        B.dueOutput(s, 0, 0, 0, 0, 0, 0, 0, 0, 0, 0);
        s = print;
        for (int k = 0; k < 9; k++) {
            s = B.state(2, print, s, 0);
        }
        B.due(FULL, B.state(2, print, s, 0));
        B.dueOutput(s, 0, 0, 0, 0, 0, 0, 0, 0, 0, 0);
        B.sentence("Terms: so many ifs with secret x within each other");
        B.label(0, true);
        int hidden = B.ofVariable(0);
        int set = B.state(0, 0, hidden, 0);
        int deep = B.state(1, 0, B.number(0), B.number(9));
        B.label(8, true);
        for (int k = 0; k < 6; k++) {
            deep = B.state(3, hidden, deep, set);
        }
        B.due(true, B.safe(deep));
        B.dueLeaks(deep, 32);
        B.due(0, B.element(0, 0));
        B.setVariable(0, MIN);
        B.dueLeaks(deep, 32);
        B.due(9, B.element(0, 0));
    }

    private static void leaksOfReading() {
        B.sentence("Terms: when an expression 2 is worked out, 16 + 8 * x + (y & 7) is leaked");
        int[] places = {0, 1, 2, 3, 4, 5, 6, 7, 8, 15, -1, -8, MIN, MAX};
        int[] really = {0, 1, 2, 3, 4, 5, 6, 7, 0, 7, 7, 0, 0, 7};
        for (int k = 0; k < places.length; k++) {
            B.fresh();
            int at = B.number(places[k]);
            B.dueLeaks(B.print(B.reading(0, at)), 16 + really[k]);
            B.dueLeaks(B.print(B.reading(1, at)), 24 + really[k]);
        }
    }

    private static void leaksOfWriting() {
        B.sentence("Terms: when a statement 1 is executed, 32 + 8 * x + (y & 7) is leaked");
        int[] places = {0, 1, 2, 3, 4, 5, 6, 7, 8, 15, -1, -8, MIN, MAX};
        int[] really = {0, 1, 2, 3, 4, 5, 6, 7, 0, 7, 7, 0, 0, 7};
        for (int k = 0; k < places.length; k++) {
            B.fresh();
            int at = B.number(places[k]);
            B.dueLeaks(B.state(1, 0, at, at), 32 + really[k]);
            B.dueLeaks(B.state(1, 1, at, at), 40 + really[k]);
        }
    }

    private static void seeminglyChangesNothing() {
        B.sentence("Terms: seemingly executed statements change nothing, but leak as others do");
        for (int v = 0; v < 10; v++) {
            B.label(v, v != 1);
        }
        int hidden = B.ofVariable(0);
        int open = B.ofVariable(1);
        int read = B.reading(0, B.number(6));
        int s = B.state(2, B.state(0, 7, read, 0), B.state(1, 1, open, read), 0);
        s = B.state(3, open, s, B.state(0, 7, B.number(3), 0));
        s = B.state(4, 2, s, 0);
        int asY = B.state(3, hidden, s, -1);
        int asZ = B.state(3, hidden, B.state(0, 6, hidden, 0), s);
        B.setElement(0, 6, MIN);
        B.setVariable(1, MAX);
        for (int condition : CONDITIONS) {
            B.setVariable(0, condition);
            for (boolean first : new boolean[] {true, false}) {
                boolean really = first == (condition != 0);
                B.setVariable(7, 1);
                B.setElement(1, 7, 2);
                B.dueLeaks(first ? asY : asZ, 1, 22, 22, 47, 1, 22, 22, 47);
                B.due(really ? MIN : 1, B.variable(7));
                B.due(really ? MIN : 2, B.element(1, 7));
            }
        }
        B.setVariable(1, 0);
        B.setVariable(7, 1);
        B.dueLeaks(asZ, 0, 0);
        B.due(1, B.variable(7));
    }

    private static void seeminglyWithinSeemingly() {
        B.sentence("Terms: y is executed as the statement is, z seemingly, and within them the same");
        for (int v = 0; v < 8; v++) {
            B.label(v, true);
        }
        int a = B.ofVariable(0);
        int b = B.ofVariable(1);
        int[] sets = new int[4];
        for (int k = 0; k < 4; k++) {
            sets[k] = B.state(0, 4 + k, B.number(7), 0);
        }
        int s = B.state(3, a, B.state(3, b, sets[3], sets[2]), B.state(3, b, sets[1], sets[0]));
        for (int which = 0; which < 4; which++) {
            B.setVariable(0, which >> 1);
            B.setVariable(1, which & 1);
            for (int k = 0; k < 4; k++) {
                B.setVariable(4 + k, -1);
            }
            B.dueLeaks(s);
            for (int k = 0; k < 4; k++) {
                B.due(k == which ? 7 : -1, B.variable(4 + k));
            }
        }
    }

    private static void secretXLeaksItsReadings() {
        B.sentence("17: with secret x neither 1 nor 0 is leaked; what expressions 2 in x leak is");
        B.label(9, true);
        B.label(2, true);
        int x = B.express(3, B.reading(1, B.number(7)), B.reading(0, B.number(-8)), 0);
        int set = B.state(0, 2, B.number(5), 0);
        int s = B.state(3, x, set, B.state(1, 1, B.number(0), B.number(5)));
        int alone = B.state(3, x, set, -1);
        for (int condition : CONDITIONS) {
            B.setElement(1, 7, condition);
            B.dueLeaks(s, 31, 16, 40);
            B.dueLeaks(alone, 31, 16);
        }
        B.label(9, false);
        B.dueLeaks(s, 31, 16, 1);
        B.setElement(1, 7, 0);
        B.dueLeaks(s, 31, 16, 0, 40);
        B.dueLeaks(alone, 31, 16, 0);
        B.sentence("17: the same where the statement itself is executed seemingly");
        B.label(0, true);
        B.label(9, true);
        int hidden = B.ofVariable(0);
        int read = B.reading(1, B.number(3));
        int inner = B.state(3, read, B.state(0, 0, B.number(0), 0), -1);
        int outer = B.state(3, hidden, B.state(0, 0, hidden, 0), inner);
        for (int condition : CONDITIONS) {
            B.setVariable(0, condition);
            B.setElement(1, 3, condition);
            B.dueLeaks(outer, 27);
            B.due(condition, B.variable(0));
        }
    }
}
