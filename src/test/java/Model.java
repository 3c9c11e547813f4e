import java.util.ArrayList;
import java.util.List;

/**
 * The document read a second time, as plainly as it goes: trees, recursion, and everything worked
 * out anew whenever it is asked for.
 */
final class Model {
    private record Expression(int kind, int x, int y, int z) {
    }

    private record Statement(int kind, int x, int y, int z) {
    }

    private final List<Expression> expressions = new ArrayList<>();
    private final List<Statement> statements = new ArrayList<>();
    private final int[] variables = new int[8];
    private final int[][] arrays = new int[2][8];
    private final boolean[] secretVariable = new boolean[8];
    private final boolean[] secretArray = new boolean[2];
    private final List<Integer> leaks = new ArrayList<>();
    private final List<Integer> output = new ArrayList<>();

    private boolean isExpression(int e) {
        return e >= 0 && e < expressions.size();
    }

    private boolean isStatement(int s) {
        return s >= 0 && s < statements.size();
    }

    private static boolean isFrom(int value, int low, int high) {
        return value >= low && value <= high;
    }

    private static List<Integer> parts(Expression e) {
        return switch (e.kind()) {
            case 0, 1 -> List.of();
            case 2 -> List.of(e.y());
            case 13 -> List.of(e.x());
            case 14 -> List.of(e.x(), e.y(), e.z());
            default -> List.of(e.x(), e.y());
        };
    }

    private static List<Integer> expressionsOf(Statement s) {
        return switch (s.kind()) {
            case 0 -> List.of(s.y());
            case 1 -> List.of(s.y(), s.z());
            case 3, 5, 6 -> List.of(s.x());
            default -> List.of();
        };
    }

    private static List<Integer> statementsOf(Statement s) {
        return switch (s.kind()) {
            case 2 -> List.of(s.x(), s.y());
            case 3 -> s.z() == -1 ? List.of(s.y()) : List.of(s.y(), s.z());
            case 4, 5 -> List.of(s.y());
            default -> List.of();
        };
    }

    private int weight(Expression e) {
        int sum = 1;
        for (int part : parts(e)) {
            sum += weight(expressions.get(part));
        }
        return sum;
    }

    private int weight(Statement s) {
        int sum = 1;
        for (int part : expressionsOf(s)) {
            sum += weight(expressions.get(part));
        }
        for (int part : statementsOf(s)) {
            sum += weight(statements.get(part));
        }
        return sum;
    }

    private int loops(Statement s) {
        int most = 0;
        for (int part : statementsOf(s)) {
            most = Math.max(most, loops(statements.get(part)));
        }
        return most + (s.kind() == 4 || s.kind() == 5 ? 1 : 0);
    }

    int express(int kind, int x, int y, int z) {
        if (expressions.size() == 50) {
            return -2;
        }
        if (!isFrom(kind, 0, 14)) {
            return -1;
        }
        if (kind == 1 && !isFrom(x, 0, 7) || kind == 2 && !isFrom(x, 0, 1)) {
            return -1;
        }
        Expression made = new Expression(kind, x, y, z);
        for (int part : parts(made)) {
            if (!isExpression(part)) {
                return -1;
            }
        }
        if (weight(made) > 30) {
            return -2;
        }
        expressions.add(made);
        return expressions.size() - 1;
    }

    int state(int kind, int x, int y, int z) {
        if (statements.size() == 40) {
            return -2;
        }
        if (!isFrom(kind, 0, 6)) {
            return -1;
        }
        if (kind == 0 && !isFrom(x, 0, 7) || kind == 1 && !isFrom(x, 0, 1)
                || kind == 4 && !isFrom(x, 1, 6)) {
            return -1;
        }
        Statement made = new Statement(kind, x, y, z);
        for (int part : expressionsOf(made)) {
            if (!isExpression(part)) {
                return -1;
            }
        }
        for (int part : statementsOf(made)) {
            if (!isStatement(part)) {
                return -1;
            }
        }
        if (weight(made) > 30 || loops(made) > 3) {
            return -2;
        }
        statements.add(made);
        return statements.size() - 1;
    }

    boolean label(int v, boolean secret) {
        if (isFrom(v, 0, 7)) {
            secretVariable[v] = secret;
        } else if (isFrom(v, 8, 9)) {
            secretArray[v - 8] = secret;
        }
        return isFrom(v, 0, 9);
    }

    boolean secret(int e) {
        return isExpression(e) && isSecret(e);
    }

    private boolean isSecret(int number) {
        Expression e = expressions.get(number);
        if (e.kind() == 1 && secretVariable[e.x()] || e.kind() == 2 && secretArray[e.x()]) {
            return true;
        }
        for (int part : parts(e)) {
            if (isSecret(part)) {
                return true;
            }
        }
        return false;
    }

    private boolean readsInPublic(int number) {
        Expression e = expressions.get(number);
        if (e.kind() == 2 && isSecret(e.y())) {
            return false;
        }
        for (int part : parts(e)) {
            if (!readsInPublic(part)) {
                return false;
            }
        }
        return true;
    }

    boolean safe(int s) {
        return isStatement(s) && isSafe(s, false);
    }

    private boolean isSafe(int number, boolean hidden) {
        Statement s = statements.get(number);
        for (int part : expressionsOf(s)) {
            if (!readsInPublic(part)) {
                return false;
            }
        }
        switch (s.kind()) {
            case 0:
                return (!isSecret(s.y()) || secretVariable[s.x()])
                        && (!hidden || secretVariable[s.x()]);
            case 1:
                return !isSecret(s.y()) && (!isSecret(s.z()) || secretArray[s.x()])
                        && (!hidden || secretArray[s.x()]);
            case 2:
                return isSafe(s.x(), hidden) && isSafe(s.y(), hidden);
            case 3:
                boolean place = isSecret(s.x()) ? true : hidden;
                return isSafe(s.y(), place) && (s.z() == -1 || isSafe(s.z(), place));
            case 4:
                return isSafe(s.y(), hidden);
            case 5:
                return !hidden && !isSecret(s.x()) && isSafe(s.y(), false);
            default:
                return !hidden && !isSecret(s.x());
        }
    }

    int run(int s) {
        if (!isStatement(s)) {
            return -1;
        }
        if (!isSafe(s, false)) {
            return -3;
        }
        leaks.clear();
        output.clear();
        execute(s, true);
        return 0;
    }

    private void execute(int number, boolean really) {
        Statement s = statements.get(number);
        switch (s.kind()) {
            case 0 -> {
                int value = value(s.y());
                if (really) {
                    variables[s.x()] = value;
                }
            }
            case 1 -> {
                int at = value(s.y()) & 7;
                int value = value(s.z());
                leaks.add(32 + 8 * s.x() + at);
                if (really) {
                    arrays[s.x()][at] = value;
                }
            }
            case 2 -> {
                execute(s.x(), really);
                execute(s.y(), really);
            }
            case 3 -> executeIf(s, really);
            case 4 -> {
                for (int k = 0; k < s.x(); k++) {
                    execute(s.y(), really);
                }
            }
            case 5 -> {
                for (int k = 0; k < 6; k++) {
                    boolean again = value(s.x()) != 0;
                    leaks.add(again ? 3 : 2);
                    if (!again) {
                        break;
                    }
                    execute(s.y(), really);
                }
            }
            default -> {
                int value = value(s.x());
                if (really) {
                    output.add(value);
                }
            }
        }
    }

    private void executeIf(Statement s, boolean really) {
        boolean secret = isSecret(s.x());
        boolean holds = value(s.x()) != 0;
        if (!secret) {
            leaks.add(holds ? 1 : 0);
        }
        if (secret || holds) {
            execute(s.y(), really && holds);
        }
        if ((secret || !holds) && s.z() != -1) {
            execute(s.z(), really && !holds);
        }
    }

    private int value(int number) {
        Expression e = expressions.get(number);
        int[] v = parts(e).stream().mapToInt(this::value).toArray();
        switch (e.kind()) {
            case 0:
                return e.x();
            case 1:
                return variables[e.x()];
            case 2:
                leaks.add(16 + 8 * e.x() + (v[0] & 7));
                return arrays[e.x()][v[0] & 7];
            case 3:
                return v[0] + v[1];
            case 4:
                return v[0] - v[1];
            case 5:
                return v[0] * v[1];
            case 6:
                return v[0] & v[1];
            case 7:
                return v[0] | v[1];
            case 8:
                return v[0] ^ v[1];
            case 9:
                return v[0] << (v[1] & 31);
            case 10:
                return v[0] >>> (v[1] & 31);
            case 11:
                return v[0] < v[1] ? 1 : 0;
            case 12:
                return v[0] == v[1] ? 1 : 0;
            case 13:
                return ~v[0];
            default:
                return v[0] != 0 ? v[1] : v[2];
        }
    }

    int leaks() {
        return leaks.size();
    }

    int leak(int k) {
        return isFrom(k, 0, 199) && k < leaks.size() ? leaks.get(k) : -1;
    }

    int printed() {
        return output.size();
    }

    int output(int k) {
        return isFrom(k, 0, 19) && k < output.size() ? output.get(k) : 0;
    }

    int variable(int v) {
        return isFrom(v, 0, 7) ? variables[v] : 0;
    }

    boolean setVariable(int v, int value) {
        if (isFrom(v, 0, 7)) {
            variables[v] = value;
        }
        return isFrom(v, 0, 7);
    }

    int element(int array, int i) {
        return isFrom(array, 0, 1) && isFrom(i, 0, 7) ? arrays[array][i] : 0;
    }

    boolean setElement(int array, int i, int value) {
        boolean there = isFrom(array, 0, 1) && isFrom(i, 0, 7);
        if (there) {
            arrays[array][i] = value;
        }
        return there;
    }

    boolean level(int k) {
        return isFrom(k, 0, 2);
    }
}
