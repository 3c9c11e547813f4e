import java.util.Random;

/** Random operands that make statements which are often taken, often safe, and often deep. */
final class Programs {
    private static final int[] EDGES = {0, 1, -1, 2, 7, 8, 31, 32, 33, Integer.MIN_VALUE,
        Integer.MAX_VALUE};

    private final Random random;

    Programs(long seed) {
        random = new Random(seed);
    }

    int below(int bound) {
        return random.nextInt(bound);
    }

    boolean oneIn(int n) {
        return random.nextInt(n) == 0;
    }

    int number() {
        int sort = random.nextInt(4);
        if (sort == 0) {
            return EDGES[random.nextInt(EDGES.length)];
        }
        return sort == 1 ? random.nextInt() : random.nextInt(12) - 2;
    }

    /** One of the numbers from 0 up to, not including, count; now and then one beside them. */
    int among(int count) {
        if (count == 0 || oneIn(40)) {
            return oneIn(2) ? count + random.nextInt(2) : oneIn(4) ? number() : -1 - random.nextInt(2);
        }
        return random.nextInt(count);
    }

    /** Like among, but the later ones come more often: so things grow deep. */
    int lately(int count) {
        return count > 4 && oneIn(2) ? count - 1 - random.nextInt(4) : among(count);
    }

    /** Kind, x, y, z of an expression, where count are there. */
    int[] expression(int count) {
        int kind = oneIn(3) || count < 4 ? random.nextInt(3) : oneIn(50) ? among(15) : random.nextInt(15);
        int x = kind == 0 ? number() : kind == 1 ? among(8) : kind == 2 ? among(2) : lately(count);
        return new int[] {kind, x, kind < 2 ? number() : lately(count),
            kind == 14 ? lately(count) : number()};
    }

    /** Kind, x, y, z of a statement, where so many expressions and statements are there. */
    int[] statement(int expressions, int statements) {
        int kind = statements < 3 || oneIn(3) ? random.nextInt(2) : oneIn(50) ? among(7) : random.nextInt(7);
        switch (kind) {
            case 0:
                return new int[] {kind, among(8), lately(expressions), number()};
            case 1:
                return new int[] {kind, among(2), among(expressions), lately(expressions)};
            case 2:
                return new int[] {kind, lately(statements), lately(statements), number()};
            case 3:
                return new int[] {kind, among(expressions), lately(statements),
                    oneIn(4) ? -1 : lately(statements)};
            case 4:
                return new int[] {kind, oneIn(20) ? number() : 1 + random.nextInt(6),
                    lately(statements), number()};
            case 5:
                return new int[] {kind, among(expressions), lately(statements), number()};
            default:
                return new int[] {kind, among(expressions), number(), number()};
        }
    }
}
