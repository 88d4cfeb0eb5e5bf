import java.util.Arrays;
import java.util.Random;

/**
 * Promises 5 to 11 on many made-up programs, always the same ones: every answer against the model,
 * and the run as milled against the run as written.
 */
public final class ModelTest {
    private static final int PROGRAMS = 6000;
    private static final Check CHECK = new Check("ModelTest");
    private static final int[] SEEN_FATES = new int[3];
    private static final int[] SEEN_ESCAPES = new int[3];
    private static final int[] SEEN_SUMMARIES = new int[3];
    private static final int[] SEEN_FAILURES = new int[5];

    public static void main(String[] args) {
        for (int seed = 0; seed < PROGRAMS; seed++) {
            Random random = new Random(seed);
            EscapeMill mill = new EscapeMill();
            Model model = new Model();
            make(random, mill, model);
            compare(seed, mill, model);
            // A change behind the answers must be seen by the next ones.
            change(random, mill, model);
            compare(seed, mill, model);
        }
        enough("fates", SEEN_FATES);
        enough("escapes", SEEN_ESCAPES);
        enough("summaries", SEEN_SUMMARIES);
        enough("failures", SEEN_FAILURES);
        CHECK.end();
    }

    /** Each kind of answer has come up often, or the programs would show little. */
    private static void enough(String what, int[] seen) {
        System.out.println("ModelTest: " + what + " seen " + Arrays.toString(seen));
        for (int many : seen) {
            CHECK.holds("many of all " + what, many >= 100);
        }
    }

    private static void make(Random random, EscapeMill mill, Model model) {
        boolean calm = random.nextInt(3) > 0;
        for (int m = 0; m < 5; m++) {
            if (m > 0 && random.nextInt(6) == 0) {
                continue;
            }
            parameters(mill, model, m, random.nextInt(3));
            int size = 1 + random.nextInt(m == 0 ? 24 : 12);
            for (int i = 0; i < size; i++) {
                int[] c = calm ? MadeUp.calm(random, m, i, size) : MadeUp.wild(random, size);
                put(mill, model, m, c);
            }
        }
    }

    private static void change(Random random, EscapeMill mill, Model model) {
        int m = random.nextInt(5);
        int kind = random.nextInt(3);
        if (kind == 0) {
            parameters(mill, model, m, random.nextInt(3));
        } else if (kind == 1 || mill.length(m) == 24) {
            mill.clear(m);
            model.methods[m].code.clear();
        } else {
            put(mill, model, m, MadeUp.wild(random, mill.length(m)));
        }
    }

    private static void parameters(EscapeMill mill, Model model, int m, int many) {
        mill.parameters(m, many);
        model.methods[m].many = many;
    }

    private static void put(EscapeMill mill, Model model, int m, int[] c) {
        int due = model.methods[m].code.size();
        CHECK.due("number of an instruction", mill.put(m, c[0], c[1], c[2], c[3], c[4]), due);
        model.methods[m].code.add(c);
    }

    private static void compare(int seed, EscapeMill mill, Model model) {
        model.analyse();
        for (int m = 0; m < 5; m++) {
            String told = "program " + seed + ", method " + m;
            Model.Method method = model.methods[m];
            CHECK.due(told + ": length", mill.length(m), method.code.size());
            for (int r = 0; r < 4; r++) {
                CHECK.due(told + ": may " + r, mill.may(m, r), model.may(m, r));
            }
            for (int p = 0; p < 2; p++) {
                int due = p < method.many ? method.summary[p] : -1;
                CHECK.due(told + ": summary " + p, mill.summary(m, p), due);
                if (due >= 0 && !method.code.isEmpty()) {
                    SEEN_SUMMARIES[due]++;
                }
            }
            for (int i = 0; i < method.code.size(); i++) {
                int due = model.escape(m, i);
                CHECK.due(told + ": escape " + i, mill.escape(m, i), due);
                CHECK.due(told + ": fate " + i, mill.fate(m, i), method.fates[i]);
                SEEN_FATES[method.fates[i]]++;
                if (due >= 0) {
                    SEEN_ESCAPES[due]++;
                }
            }
        }
        compareRuns(seed, mill, model);
    }

    private static void compareRuns(int seed, EscapeMill mill, Model model) {
        int[][] told = new int[2][];
        for (int k = 0; k < 2; k++) {
            String run = "program " + seed + (k == 0 ? " as written" : " as milled");
            model.run(k == 1);
            CHECK.due(run + ": run", mill.run(k == 1), model.failure);
            int[] due = {model.failure, model.shown.size(), model.done, model.made, model.locked};
            for (int what = 0; what < 5; what++) {
                CHECK.due(run + ": latest " + what, mill.latest(what), due[what]);
            }
            int kept = Math.min(32, model.shown.size());
            told[k] = new int[kept];
            for (int s = 0; s < kept; s++) {
                told[k][s] = mill.shown(s);
                CHECK.due(run + ": shown " + s, told[k][s], model.shown.get(s));
            }
            CHECK.throwing(run + ": shown " + kept, IndexOutOfBoundsException.class, () -> mill.shown(kept));
            SEEN_FAILURES[model.failure]++;
        }
        sameBothWays(seed, mill, told);
    }

    private static void sameBothWays(int seed, EscapeMill mill, int[][] told) {
        CHECK.holds("program " + seed + ": both runs show the same", Arrays.equals(told[0], told[1]));
        int[] milled = new int[5];
        for (int what = 0; what < 5; what++) {
            milled[what] = mill.latest(what);
        }
        mill.run(false);
        for (int what = 0; what < 3; what++) {
            CHECK.due("program " + seed + ": latest " + what + " of both runs", milled[what], mill.latest(what));
        }
        CHECK.holds("program " + seed + ": no more objects", milled[3] <= mill.latest(3));
        CHECK.holds("program " + seed + ": no more locks", milled[4] <= mill.latest(4));
    }
}
