/** Random runs of calls on new objects: every answer must be the model's. */
public final class ModelTest {
    private static final int OBJECTS = 6000;
    private static final int MOST_CALLS = 512;
    private static final Checks CHECKS = new Checks("ModelTest");

    private SecretKeeper keeper;
    private Model model;
    private Programs programs;
    private int calls;
    private int expressions;
    private int statements;
    private static long runsDone = 0;
    private static long hiddenRuns = 0;
    private static long longRuns = 0;

    public static void main(String[] args) {
        ModelTest test = new ModelTest();
        for (int seed = 0; seed < OBJECTS && !CHECKS.anyWrong(); seed++) {
            test.useOneObject(seed);
        }
        CHECKS.part("the random runs reach what they are for");
        CHECKS.due("runs", runsDone > OBJECTS, true);
        CHECKS.due("runs with something secret", hiddenRuns > OBJECTS / 2, true);
        CHECKS.due("runs with more leaks than are kept", longRuns > 50, true);
        CHECKS.end();
    }

    private void useOneObject(int seed) {
        CHECKS.part("seed " + seed);
        keeper = new SecretKeeper();
        model = new Model();
        programs = new Programs(seed);
        calls = 0;
        expressions = 0;
        statements = 0;
        int secrets = programs.below(6);
        for (int k = 0; k < secrets; k++) {
            label();
        }
        while (calls < MOST_CALLS) {
            useOnce();
        }
    }

    private void useOnce() {
        int sort = programs.below(20);
        if (sort < 5) {
            express();
        } else if (sort < 9) {
            state();
        } else if (sort < 13) {
            runAndLook();
        } else if (sort < 15) {
            setNumbers();
        } else if (sort < 16) {
            if (programs.oneIn(3)) {
                label();
            }
        } else {
            ask();
        }
    }

    private boolean mayCall() {
        calls++;
        return calls <= MOST_CALLS;
    }

    private void due(String call, int got, int want) {
        CHECKS.due("call " + calls + ", " + call, got, want);
    }

    private void due(String call, boolean got, boolean want) {
        CHECKS.due("call " + calls + ", " + call, got, want);
    }

    private void express() {
        int[] o = programs.expression(expressions);
        if (mayCall()) {
            int want = model.express(o[0], o[1], o[2], o[3]);
            expressions = Math.max(expressions, want + 1);
            due("express", keeper.express(o[0], o[1], o[2], o[3]), want);
        }
    }

    private void state() {
        int[] o = programs.statement(expressions, statements);
        if (mayCall()) {
            int want = model.state(o[0], o[1], o[2], o[3]);
            statements = Math.max(statements, want + 1);
            due("state", keeper.state(o[0], o[1], o[2], o[3]), want);
        }
    }

    private void label() {
        int v = programs.among(10);
        boolean secret = !programs.oneIn(3);
        if (mayCall()) {
            due("label", keeper.label(v, secret), model.label(v, secret));
        }
    }

    private void runAndLook() {
        int s = programs.lately(statements);
        if (!mayCall()) {
            return;
        }
        int want = model.run(s);
        due("run", keeper.run(s), want);
        if (want == 0) {
            runsDone++;
            longRuns += model.leaks() > 200 ? 1 : 0;
            for (int v = 0; v < expressions; v++) {
                if (model.secret(v)) {
                    hiddenRuns++;
                    break;
                }
            }
        }
        for (int k = 0; k < 12; k++) {
            lookAtRun();
        }
    }

    private void lookAtRun() {
        int k = programs.among(Math.max(1, model.leaks()));
        int i = programs.among(Math.max(1, model.printed()));
        int v = programs.among(8);
        int array = programs.among(2);
        int at = programs.among(8);
        switch (programs.below(6)) {
            case 0:
                if (mayCall()) {
                    due("leaks", keeper.leaks(), model.leaks());
                }
                break;
            case 1:
                if (mayCall()) {
                    due("leak " + k, keeper.leak(k), model.leak(k));
                }
                break;
            case 2:
                if (mayCall()) {
                    due("printed", keeper.printed(), model.printed());
                }
                break;
            case 3:
                if (mayCall()) {
                    due("output " + i, keeper.output(i), model.output(i));
                }
                break;
            case 4:
                if (mayCall()) {
                    due("variable " + v, keeper.variable(v), model.variable(v));
                }
                break;
            default:
                if (mayCall()) {
                    due("element " + array + " " + at, keeper.element(array, at),
                            model.element(array, at));
                }
                break;
        }
    }

    private void setNumbers() {
        int v = programs.among(8);
        int array = programs.among(2);
        int value = programs.number();
        if (programs.oneIn(2)) {
            if (mayCall()) {
                due("setVariable", keeper.setVariable(v, value), model.setVariable(v, value));
            }
        } else if (mayCall()) {
            due("setElement", keeper.setElement(array, v, value),
                    model.setElement(array, v, value));
        }
    }

    private void ask() {
        int e = programs.among(expressions);
        int s = programs.among(statements);
        int k = programs.among(3);
        int sort = programs.below(5);
        if (!mayCall()) {
            return;
        }
        if (sort < 2) {
            due("secret " + e, keeper.secret(e), model.secret(e));
        } else if (sort < 4) {
            due("safe " + s, keeper.safe(s), model.safe(s));
        } else {
            due("level " + k, keeper.level(k), model.level(k));
        }
    }
}
