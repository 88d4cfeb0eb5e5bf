/** Counts the answers of one test that are not as due, and prints each of them. */
final class Check {
    /** A call that a test expects to throw. */
    interface Call {
        void make();
    }

    private final String test;
    private String sentence = "";
    private int lookedBefore = 0;
    private int looked = 0;
    private int wrong = 0;

    Check(String test) {
        this.test = test;
    }

    /** The answers that follow are due by these words of the document. */
    void sentence(String words) {
        endSentence();
        sentence = words;
        lookedBefore = looked;
    }

    private void endSentence() {
        if (!sentence.isEmpty() && looked == lookedBefore) {
            tell("no answer was looked at");
        }
    }

    private void tell(String what) {
        wrong++;
        System.out.println(test + ": " + (sentence.isEmpty() ? "" : "\"" + sentence + "\": ") + what);
    }

    void due(String what, long got, long want) {
        looked++;
        if (got != want) {
            tell(what + " answered " + got + ", due is " + want);
        }
    }

    void holds(String what, boolean held) {
        due(what, held ? 1 : 0, 1);
    }

    void throwing(String what, Class<? extends RuntimeException> due, Call call) {
        looked++;
        String got = "nothing";
        try {
            call.make();
        } catch (RuntimeException e) {
            if (e.getClass() == due) {
                return;
            }
            got = e.getClass().getName();
        }
        tell(what + " threw " + got + ", due is " + due.getName());
    }

    /** Runs as written and as milled: the same failure, instructions done and numbers shown. */
    void runs(String what, EscapeMill mill, int failure, int done, int... shown) {
        for (int k = 0; k < 2; k++) {
            String told = what + (k == 0 ? ", as written" : ", as milled");
            due(told + ": run", mill.run(k == 1), failure);
            due(told + ": latest(0)", mill.latest(0), failure);
            due(told + ": latest(1)", mill.latest(1), shown.length);
            due(told + ": latest(2)", mill.latest(2), done);
            for (int s = 0; s < Math.min(shown.length, mill.latest(1)); s++) {
                due(told + ": shown(" + s + ")", mill.shown(s), shown[s]);
            }
        }
    }

    /** The fates of the first instructions of method 0. */
    void fates(String what, EscapeMill mill, int... due) {
        for (int i = 0; i < due.length; i++) {
            due(what + ": fate(0, " + i + ")", mill.fate(0, i), due[i]);
        }
    }

    void end() {
        endSentence();
        System.out.println(test + ": " + looked + " answers looked at, " + wrong + " wrong");
        if (wrong != 0) {
            System.exit(1);
        }
    }
}
