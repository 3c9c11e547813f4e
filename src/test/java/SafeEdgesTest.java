/** The boundary cases of promises 4 and 6 and of the terms on what is safe, a sentence each. */
public final class SafeEdgesTest {
    private static final int MIN = Bench.MIN;
    private static final int MAX = Bench.MAX;
    private static final int FULL = Bench.FULL;
    private static final int OPEN = 0;
    private static final int HIDDEN = 1;
    private static final Checks CHECKS = new Checks("SafeEdgesTest");
    private static final Twins TWINS = new Twins(CHECKS);

    private static final Bench B = new Bench(CHECKS);

    public static void main(String[] args) {
        labelsFrom0To9();
        labelKeepsNumbers();
        labelOutside();
        labelOnFullTables();
        safeOfNone();
        kind0();
        kind1();
        kind2();
        kind3();
        kind3WithoutZ();
        kind4();
        kind5();
        kind6();
        hiddenFarWithin();
        readAtPublicPlaces();
        readFarWithin();
        readInEachPart();
        CHECKS.end();
    }

    private static void labelsFrom0To9() {
        B.sentence("4: a variable (v from 0 to 7) or an array (v - 8, for v 8 and 9)");
        int zero = B.number(0);
        for (int v = 0; v < 8; v++) {
            B.ofVariable(v);
        }
        B.reading(0, zero);
        B.reading(1, zero);
        for (int v = 0; v < 10; v++) {
            B.due(true, B.label(v, true));
            dueSecret(1 << v);
            B.due(true, B.label(v, true));
            B.due(true, B.secret(v + 1));
            B.due(true, B.label(v, false));
            B.due(false, B.secret(v + 1));
            B.due(true, B.label(v, false));
            B.due(false, B.secret(v + 1));
        }
        for (int v = 0; v < 10; v++) {
            B.label(v, true);
        }
        dueSecret(1023);
        for (int v = 0; v < 10; v++) {
            B.label(v, false);
            dueSecret(1022 << v & 1023);
        }
    }

    /** Expression v + 1 is what label calls v; bit v of which tells whether that is secret. */
    private static void dueSecret(int which) {
        B.due(false, B.secret(0));
        for (int v = 0; v < 10; v++) {
            B.due((which >> v & 1) != 0, B.secret(v + 1));
        }
    }

    private static void labelKeepsNumbers() {
        B.sentence("4: it keeps its numbers");
        for (boolean secret : new boolean[] {true, false}) {
            B.fresh();
            for (int v = 0; v < 8; v++) {
                B.setVariable(v, MIN + v);
                B.setElement(0, v, MAX - v);
                B.setElement(1, v, v - 4);
            }
            for (int v = 0; v < 10; v++) {
                B.due(true, B.label(v, secret));
            }
            for (int v = 0; v < 8; v++) {
                B.due(MIN + v, B.variable(v));
                B.due(MAX - v, B.element(0, v));
                B.due(v - 4, B.element(1, v));
            }
        }
        B.sentence("4: and what the latest run leaked and printed stays");
        int s = B.print(B.reading(1, B.ofVariable(3)));
        B.setElement(1, 0, 6);
        B.dueLeaks(s, 24);
        B.label(9, true);
        B.label(3, true);
        B.due(1, B.leaks());
        B.due(24, B.leak(0));
        B.due(1, B.printed());
        B.due(6, B.output(0));
    }

    private static void labelOutside() {
        B.sentence("4: v outside 0..9: refused, answers false");
        for (int wrong : new int[] {-1, 10, 11, -8, MIN, MIN + 1, MAX, MAX - 1, 256, 1 << 16}) {
            TWINS.refused(Twins::ordinary, b -> b.label(wrong, true));
            TWINS.refused(Twins::ordinary, b -> b.label(wrong, false));
        }
        for (int v : new int[] {0, 7, 8, 9}) {
            B.due(true, B.label(v, true));
            B.due(true, B.label(v, false));
        }
    }

    private static void labelOnFullTables() {
        B.sentence("4: makes secret or public, for all 50 expressions and 40 statements");
        for (int e = 0; e < 50; e++) {
            B.due(e, B.ofVariable(5));
        }
        for (int s = 0; s < 40; s++) {
            B.due(s, B.print(s + 10));
        }
        for (boolean secret : new boolean[] {true, false}) {
            B.due(true, B.label(5, secret));
            for (int e = 0; e < 50; e++) {
                B.due(secret, B.secret(e));
            }
            for (int s = 0; s < 40; s++) {
                B.due(!secret, B.safe(s));
            }
        }
    }

    private static void safeOfNone() {
        B.sentence("6: false if there is none");
        for (int s : new int[] {-1, 0, 1, 39, 40, MIN, MAX}) {
            B.due(false, B.safe(s));
        }
        B.number(0);
        for (int s = 0; s < 40; s++) {
            B.due(false, B.safe(s));
            B.due(s, B.print(0));
            B.due(true, B.safe(s));
            B.due(false, B.safe(s + 1));
        }
        for (int s : new int[] {-1, 40, 41, MIN, MAX}) {
            B.due(false, B.safe(s));
        }
        B.due(true, B.safe(0));
        B.due(true, B.safe(39));
        B.sentence("6: a refused statement is none");
        B.number(0);
        B.due(Bench.BAD, B.print(1));
        B.due(false, B.safe(0));
    }

    /** Variables 4 to 7 and array 1 are secret; expression 0 is public, 1 secret. */
    private static void labelled() {
        B.fresh();
        for (int v = 4; v < 8; v++) {
            B.label(v, true);
        }
        B.label(9, true);
        B.due(OPEN, B.ofVariable(0));
        B.due(HIDDEN, B.ofVariable(7));
    }

    /** Asks by an if with a secret x whether s is safe in a hidden place. */
    private static void dueSafe(int s, boolean inOpen, boolean inHidden) {
        B.due(inOpen, B.safe(s));
        B.due(inHidden, B.safe(B.state(3, HIDDEN, s, -1)));
    }

    private static void kind0() {
        B.sentence("Terms: kind 0: y public or variable x secret, and that if the place is hidden");
        labelled();
        for (int v = 0; v < 8; v++) {
            dueSafe(B.state(0, v, OPEN, 0), true, v >= 4);
            dueSafe(B.state(0, v, HIDDEN, 0), v >= 4, v >= 4);
        }
    }

    private static void kind1() {
        B.sentence("Terms: kind 1: y public, z public or array x secret, and that if hidden");
        labelled();
        for (int array = 0; array < 2; array++) {
            boolean secret = array == 1;
            dueSafe(B.state(1, array, OPEN, OPEN), true, secret);
            dueSafe(B.state(1, array, OPEN, HIDDEN), secret, secret);
            dueSafe(B.state(1, array, HIDDEN, OPEN), false, false);
            dueSafe(B.state(1, array, HIDDEN, HIDDEN), false, false);
        }
    }

    /** Statement 0 is safe in no place, 1 in an open one, 2 in both. */
    private static void threeStatements() {
        labelled();
        B.due(0, B.state(0, 0, HIDDEN, 0));
        B.due(1, B.state(0, 0, OPEN, 0));
        B.due(2, B.state(0, 7, HIDDEN, 0));
    }

    private static void kind2() {
        B.sentence("Terms: kind 2: both are safe in the place");
        for (int x = 0; x < 3; x++) {
            for (int y = 0; y < 3; y++) {
                threeStatements();
                dueSafe(B.state(2, x, y, 0), x > 0 && y > 0, x == 2 && y == 2);
            }
        }
    }

    private static void kind3() {
        B.sentence("Terms: kind 3: y and z safe in the place, in a hidden one if x is secret");
        for (int y = 0; y < 3; y++) {
            for (int z = 0; z < 3; z++) {
                threeStatements();
                boolean inHidden = y == 2 && z == 2;
                dueSafe(B.state(3, OPEN, y, z), y > 0 && z > 0, inHidden);
                dueSafe(B.state(3, HIDDEN, y, z), inHidden, inHidden);
            }
        }
    }

    private static void kind3WithoutZ() {
        B.sentence("Terms: kind 3: z, if there is one");
        for (int y = 0; y < 3; y++) {
            threeStatements();
            dueSafe(B.state(3, OPEN, y, -1), y > 0, y == 2);
            dueSafe(B.state(3, HIDDEN, y, -1), y == 2, y == 2);
        }
    }

    private static void kind4() {
        B.sentence("Terms: kind 4: y is safe in the place");
        for (int times = 1; times <= 6; times++) {
            threeStatements();
            dueSafe(B.state(4, times, 0, 0), false, false);
            dueSafe(B.state(4, times, 1, 0), true, false);
            dueSafe(B.state(4, times, 2, 0), true, true);
        }
    }

    private static void kind5() {
        B.sentence("Terms: kind 5: the place is open, x is public and y is safe in it");
        threeStatements();
        for (int y = 0; y < 3; y++) {
            dueSafe(B.state(5, OPEN, y, 0), y > 0, false);
            dueSafe(B.state(5, HIDDEN, y, 0), false, false);
        }
    }

    private static void kind6() {
        B.sentence("Terms: kind 6: the place is open and x is public");
        labelled();
        dueSafe(B.state(6, OPEN, 0, 0), true, false);
        dueSafe(B.state(6, HIDDEN, 0, 0), false, false);
    }

    private static void hiddenFarWithin() {
        B.sentence("Terms: a hidden place stays hidden down to the last part");
        for (int y = 0; y < 3; y++) {
            threeStatements();
            int s = y;
            for (int k = 0; k < 3; k++) {
                s = B.state(4, 1, s, 0);
                s = B.state(3, OPEN, s, -1);
                s = B.state(2, 2, s, 0);
            }
            B.due(y > 0, B.safe(s));
            int hidden = B.state(3, HIDDEN, s, -1);
            B.due(true, hidden > s);
            B.due(y == 2, B.safe(hidden));
            B.due(FULL, B.state(4, 1, hidden, 0));
        }
        B.sentence("Terms: a place beside a hidden one is open");
        threeStatements();
        int hidden = B.state(3, HIDDEN, 2, -1);
        B.due(true, B.safe(B.state(2, hidden, 1, 0)));
        B.due(true, B.safe(B.state(2, 1, hidden, 0)));
        B.due(true, B.safe(B.state(3, OPEN, hidden, 1)));
        B.due(false, B.safe(B.state(3, HIDDEN, hidden, 1)));
    }

    private static void readAtPublicPlaces() {
        B.sentence("Terms: for every expression 2 in an expression of it, the part y is public");
        for (int array = 0; array < 2; array++) {
            for (int y = OPEN; y <= HIDDEN; y++) {
                threeStatements();
                boolean fine = y == OPEN;
                boolean open = fine && array == 0;
                int e = B.reading(array, y);
                dueSafe(B.state(0, 7, e, 0), fine, fine);
                dueSafe(B.state(0, 0, e, 0), open, false);
                dueSafe(B.state(1, 1, OPEN, e), fine, fine);
                dueSafe(B.state(1, 1, e, OPEN), open, open);
                dueSafe(B.state(3, e, 2, -1), fine, fine);
                dueSafe(B.state(3, e, 2, 2), fine, fine);
                dueSafe(B.state(5, e, 2, 0), open, false);
                dueSafe(B.state(6, e, 0, 0), open, false);
            }
        }
    }

    private static void readFarWithin() {
        B.sentence("Terms: for every expression 2, also at the bottom of the heaviest expression");
        for (int y = OPEN; y <= HIDDEN; y++) {
            labelled();
            int e = B.reading(0, y);
            for (int weight = 3; weight <= 29; weight++) {
                e = B.express(13, e, 0, 0);
            }
            int s = B.state(0, 7, e, 0);
            B.due(0, s);
            B.due(y == OPEN, B.safe(s));
            B.due(FULL, B.state(0, 7, B.express(13, e, 0, 0), 0));
        }
        B.sentence("Terms: a secret element is no public place, a public element is one");
        labelled();
        int openly = B.reading(0, B.reading(0, OPEN));
        int secretly = B.reading(0, B.reading(1, OPEN));
        B.due(true, B.safe(B.state(0, 7, openly, 0)));
        B.due(false, B.safe(B.state(0, 7, secretly, 0)));
    }

    private static void readInEachPart() {
        B.sentence("Terms: for every expression 2, in whichever part it stands");
        labelled();
        int e = B.reading(0, HIDDEN);
        for (int kind = 3; kind <= 12; kind++) {
            B.due(false, B.safe(B.state(0, 7, B.express(kind, e, OPEN, 0), 0)));
            B.due(false, B.safe(B.state(0, 7, B.express(kind, OPEN, e, 0), 0)));
            B.due(true, B.safe(B.state(0, 7, B.express(kind, OPEN, HIDDEN, e), 0)));
        }
        labelled();
        e = B.reading(0, HIDDEN);
        B.due(false, B.safe(B.state(0, 7, B.express(13, e, 0, 0), 0)));
        B.due(true, B.safe(B.state(0, 7, B.express(13, HIDDEN, e, e), 0)));
        B.due(false, B.safe(B.state(0, 7, B.express(14, e, OPEN, OPEN), 0)));
        B.due(false, B.safe(B.state(0, 7, B.express(14, OPEN, e, OPEN), 0)));
        B.due(false, B.safe(B.state(0, 7, B.express(14, OPEN, OPEN, e), 0)));
        B.due(false, B.safe(B.state(0, 7, B.reading(1, e), 0)));
        B.label(7, false);
        B.label(8, true);
        B.due(false, B.safe(0));
        B.label(7, true);
        B.due(false, B.safe(0));
        B.label(7, false);
        B.label(8, false);
        B.due(true, B.safe(0));
    }
}
