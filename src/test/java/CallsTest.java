import java.util.Arrays;
import java.util.Random;
import java.util.TreeMap;

/**
 * Promises 1 to 12 in rows of 512 made-up calls on one object, always the same ones, with wrong
 * arguments among them: each call answers or throws what the model and the document ask for.
 */
public final class CallsTest {
    private static final int ROWS = 400;
    private static final int CALLS = 512;
    private static final int OFTEN = 100;
    private static final int[] EDGES = {Integer.MIN_VALUE, -2, -1, 0, 1, 2, 3, 4, 5, 18, 19, 23, 24, 25, 31, 32, 33,
        Integer.MAX_VALUE};
    private static final String[] NAMES = {"parameters", "put", "clear", "run", "shown", "latest", "escape", "summary",
        "fate", "may", "length"};
    private static final String ARGUMENT = "IllegalArgumentException";
    private static final String STATE = "IllegalStateException";
    private static final String INDEX = "IndexOutOfBoundsException";

    private static final Check CHECK = new Check("CallsTest");
    private static final TreeMap<String, Integer> SEEN = new TreeMap<>();

    private final Random random;
    private final EscapeMill mill = new EscapeMill();
    private final Model model = new Model();
    private boolean changed = true;

    private CallsTest(int seed) {
        random = new Random(seed);
    }

    public static void main(String[] args) {
        for (int seed = 0; seed < ROWS; seed++) {
            new CallsTest(seed).row(seed);
        }
        for (String name : NAMES) {
            cameUp(name + " answers");
        }
        for (String refused : new String[] {"parameters " + ARGUMENT, "put " + ARGUMENT, "put " + STATE,
            "clear " + ARGUMENT, "shown " + INDEX}) {
            cameUp(refused);
        }
        CHECK.end();
    }

    /** Each way in which a call can end has come up often, or the rows would show little. */
    private static void cameUp(String end) {
        int times = SEEN.getOrDefault(end, 0);
        CHECK.holds(end + " came up " + times + " times", times >= OFTEN);
    }

    private void row(int seed) {
        for (int k = 0; k < CALLS; k++) {
            String name = madeUpName();
            int[] a = madeUpArguments(name);
            String due = due(name, a);
            String got = got(name, a);
            CHECK.holds("row " + seed + ", call " + k + ", " + name + Arrays.toString(a) + " answered " + got + ", due is "
                    + due, got.equals(due));
            SEEN.merge(name + " " + (due.endsWith("Exception") ? due : "answers"), 1, Integer::sum);
        }
    }

    private String madeUpName() {
        return random.nextInt(3) > 0 ? "put" : NAMES[random.nextInt(NAMES.length)];
    }

    /** Right arguments, one of them sometimes an edge of what is right or beyond it. */
    private int[] madeUpArguments(String name) {
        int m = random.nextInt(5);
        int[] a = switch (name) {
            case "parameters" -> new int[] {m, random.nextInt(3)};
            case "put" -> madeUpPut(m);
            case "clear", "length" -> new int[] {m};
            case "run" -> new int[] {random.nextInt(2)};
            case "shown", "latest" -> new int[] {random.nextInt(5)};
            case "summary" -> new int[] {m, random.nextInt(2)};
            case "may" -> new int[] {m, random.nextInt(4)};
            default -> new int[] {m, random.nextInt(24)};
        };
        if (random.nextInt(8) == 0 && !name.equals("run")) {
            a[random.nextInt(a.length)] = EDGES[random.nextInt(EDGES.length)];
        }
        return a;
    }

    private int[] madeUpPut(int m) {
        int size = model.methods[m].code.size();
        int[] c = random.nextInt(3) > 0 ? MadeUp.calm(random, m, size, 24) : MadeUp.wild(random, 24);
        return new int[] {m, c[0], c[1], c[2], c[3], c[4]};
    }

    private String got(String name, int[] a) {
        try {
            return switch (name) {
                case "parameters" -> "" + mill.parameters(a[0], a[1]);
                case "put" -> "" + mill.put(a[0], a[1], a[2], a[3], a[4], a[5]);
                case "clear" -> "" + mill.clear(a[0]);
                case "run" -> "" + mill.run(a[0] == 1);
                case "shown" -> "" + mill.shown(a[0]);
                case "latest" -> "" + mill.latest(a[0]);
                case "escape" -> "" + mill.escape(a[0], a[1]);
                case "summary" -> "" + mill.summary(a[0], a[1]);
                case "fate" -> "" + mill.fate(a[0], a[1]);
                case "may" -> "" + mill.may(a[0], a[1]);
                default -> "" + mill.length(a[0]);
            };
        } catch (RuntimeException e) {
            return e.getClass().getSimpleName();
        }
    }

    private String due(String name, int[] a) {
        return switch (name) {
            case "parameters" -> dueOfParameters(a[0], a[1]);
            case "put" -> dueOfPut(a);
            case "clear" -> dueOfClear(a[0]);
            case "run" -> dueOfRun(a[0] == 1);
            case "shown" -> isIn(a[0], 32) && isIn(a[0], model.shown.size()) ? "" + model.shown.get(a[0]) : INDEX;
            case "latest" -> "" + dueOfLatest(a[0]);
            case "length" -> "" + (isIn(a[0], 5) ? model.methods[a[0]].code.size() : -1);
            default -> "" + (isIn(a[0], 5) ? dueOfAnalysis(name, a[0], a[1]) : -1);
        };
    }

    private String dueOfParameters(int m, int many) {
        if (!isIn(m, 5) || !isIn(many, 3)) {
            return ARGUMENT;
        }
        model.methods[m].many = many;
        changed = true;
        return "true";
    }

    private String dueOfPut(int[] a) {
        boolean isRight = isIn(a[0], 5) && isIn(a[1], 19) && isIn(a[2], 4) && isIn(a[3], 4);
        boolean ofField = a[1] >= Ops.GETR && a[1] <= Ops.PUTI;
        if (!isRight || !isIn(a[4], ofField ? 2 : 4) || a[1] == Ops.CALL && !isIn(a[5], 5)) {
            return ARGUMENT;
        }
        int size = model.methods[a[0]].code.size();
        if (size == 24) {
            return STATE;
        }
        model.methods[a[0]].code.add(Arrays.copyOfRange(a, 1, 6));
        changed = true;
        return "" + size;
    }

    private String dueOfClear(int m) {
        if (!isIn(m, 5)) {
            return ARGUMENT;
        }
        int size = model.methods[m].code.size();
        model.methods[m].code.clear();
        changed = true;
        return "" + size;
    }

    private String dueOfRun(boolean milled) {
        analyse();
        model.run(milled);
        return "" + model.failure;
    }

    private int dueOfLatest(int what) {
        int[] all = {model.failure, model.shown.size(), model.done, model.made, model.locked};
        return isIn(what, 5) ? all[what] : -1;
    }

    private int dueOfAnalysis(String name, int m, int k) {
        analyse();
        Model.Method method = model.methods[m];
        int size = method.code.size();
        return switch (name) {
            case "escape" -> isIn(k, size) ? model.escape(m, k) : -1;
            case "summary" -> isIn(k, method.many) ? method.summary[k] : -1;
            case "fate" -> isIn(k, size) ? method.fates[k] : -1;
            default -> isIn(k, 4) ? model.may(m, k) : -1;
        };
    }

    private void analyse() {
        if (changed) {
            model.analyse();
            changed = false;
        }
    }

    private static boolean isIn(int k, int many) {
        return k >= 0 && k < many;
    }
}
