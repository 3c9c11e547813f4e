import java.util.ArrayList;
import java.util.List;
import java.util.function.Consumer;
import java.util.function.Predicate;
import java.util.function.ToIntFunction;

/**
 * Shows that a refused call changes nothing: two objects are treated alike, but only one of them
 * gets the call, and then everything that can be told of the two must be the same.
 */
final class Twins {
    private static final int LEAKS_LOOKED_AT = 8;
    private static final int OUTPUTS_LOOKED_AT = 5;

    private final Checks checks;

    Twins(Checks checks) {
        this.checks = checks;
    }

    void refused(Consumer<Bench> scene, int want, ToIntFunction<Bench> call) {
        Bench given = new Bench(checks);
        Bench spared = new Bench(checks);
        scene.accept(given);
        scene.accept(spared);
        given.due(want, call.applyAsInt(given));
        String refused = given.last();
        List<String> got = everything(given);
        List<String> due = everything(spared);
        for (int k = 0; k < due.size(); k++) {
            checks.due("after " + refused, got.get(k), due.get(k));
        }
    }

    void refused(Consumer<Bench> scene, Predicate<Bench> call) {
        refused(scene, 0, b -> call.test(b) ? 1 : 0);
    }

    /** What is there now, then the next numbers, then what each statement does when it is run. */
    private static List<String> everything(Bench b) {
        List<String> told = new ArrayList<>();
        tellRun(b, told);
        tellNumbers(b, told);
        for (int e = 0; e <= 50; e++) {
            tell(b, told, b.secret(e) ? 1 : 0);
        }
        for (int s = 0; s <= 40; s++) {
            tell(b, told, b.safe(s) ? 1 : 0);
        }
        tell(b, told, b.number(6));
        tell(b, told, b.print(0));
        for (int s = 0; s <= 40; s++) {
            int answer = b.run(s);
            tell(b, told, answer);
            if (answer == Bench.OK && b.callsLeft() > 40) {
                tell(b, told, b.leaks());
                tell(b, told, b.leak(0));
                tell(b, told, b.printed());
                tell(b, told, b.output(0));
            }
        }
        tellNumbers(b, told);
        return told;
    }

    private static void tellRun(Bench b, List<String> told) {
        tell(b, told, b.leaks());
        for (int k = 0; k < LEAKS_LOOKED_AT; k++) {
            tell(b, told, b.leak(k));
        }
        tell(b, told, b.printed());
        for (int k = 0; k < OUTPUTS_LOOKED_AT; k++) {
            tell(b, told, b.output(k));
        }
    }

    private static void tellNumbers(Bench b, List<String> told) {
        for (int v = 0; v < 8; v++) {
            tell(b, told, b.variable(v));
        }
        for (int i = 0; i < 8; i++) {
            tell(b, told, b.element(0, i));
            tell(b, told, b.element(1, i));
        }
    }

    private static void tell(Bench b, List<String> told, int answer) {
        told.add(b.last() + " answered " + answer);
    }

    /**
     * Expressions 0 to 7 are the variables, 8 the int 3, 9 and 10 read the arrays there; variable 1
     * and array 1 are secret. Statement 6 is not safe, the others are; 4 and 5 leak and print.
     */
    static void ordinary(Bench b) {
        for (int v = 0; v < 8; v++) {
            b.setVariable(v, 100 + v);
            b.ofVariable(v);
        }
        for (int i = 0; i < 8; i++) {
            b.setElement(0, i, 10 + i);
            b.setElement(1, i, 20 + i);
        }
        b.label(1, true);
        b.label(9, true);
        int three = b.number(3);
        int open = b.reading(0, three);
        int hidden = b.reading(1, three);
        b.print(0);
        b.state(0, 2, open, 0);
        b.state(1, 1, three, hidden);
        b.state(2, 0, 1, 0);
        b.state(3, 0, 3, 0);
        b.state(4, 2, 4, 0);
        b.print(1);
        b.state(3, 1, 2, -1);
        b.run(5);
    }

    static void fullOfExpressions(Bench b) {
        ordinary(b);
        for (int e = 11; e < 50; e++) {
            b.number(e);
        }
    }

    static void fullOfStatements(Bench b) {
        ordinary(b);
        for (int s = 8; s < 40; s++) {
            b.state(0, 3, 8, 0);
        }
    }

    /** Expression 11 + w has the weight w, from 2 to 30; statement 10 holds three loops. */
    static void heavyAndDeep(Bench b) {
        ordinary(b);
        b.number(0);
        b.number(0);
        int e = 12;
        for (int weight = 2; weight <= 30; weight++) {
            e = b.express(13, e, 0, 0);
        }
        b.state(4, 1, 0, 0);
        b.state(5, 0, 8, 0);
        b.state(4, 2, 9, 0);
    }
}
