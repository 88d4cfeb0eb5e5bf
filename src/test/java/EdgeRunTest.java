/** The failures, each at its edge, and the boundary cases of promises 5, 6 and 7, sentence by sentence. */
public final class EdgeRunTest {
    private static final Check CHECK = new Check("EdgeRunTest");
    private static final Class<IndexOutOfBoundsException> BOUNDS = IndexOutOfBoundsException.class;
    private static final int MIN = Integer.MIN_VALUE;
    private static final int MAX = Integer.MAX_VALUE;

    public static void main(String[] args) {
        ofNull();
        nullThatIsNoFailure();
        unlockOfZero();
        callOfNoInstructions();
        eightMethodsRun();
        fourHundredAndNoOther();
        fourHundredAndAnother();
        fourHundredInACalledMethod();
        nothingElseIsLookedAt();
        theFourHundredthFails();
        runAnswers();
        runTakesNothingFromTheProgram();
        thirtyTwoAreKept();
        noneIsShown();
        refusedShownLeavesAll();
        instructionsDone();
        objectsMade();
        locksDone();
        anotherWhat();
        beforeTheFirstRun();
        ofTheLatestRun();
        CHECK.end();
    }

    private static final String[] OF_R1 = {"GETR 0 1 0", "PUTR 1 2 1", "GETI 0 1 1", "PUTI 1 2 0", "LOCK 1", "UNLOCK 1"};

    private static void ofNull() {
        CHECK.sentence("1: a field or a lock of NULL");
        for (String op : OF_R1) {
            CHECK.runs(op + " at first", Programs.mill("NEW 0; NEW 2; SHOW 0;" + op + "; SHOW 0"), 1, 4, 0);
            CHECK.runs(op + " of what was NULLed", Programs.mill("NEW 1; NULL 1; NEW 2;" + op + "; SHOW 0"), 1, 4);
            CHECK.runs(op + " of an object", Programs.mill("NEW 1; STORE 1 0; LOCK 1; NEW 2;" + op + "; SHOW 3"), 0, 6, 0);
            CHECK.runs(op + " of parts", Programs.mill("NEW 1; LOCK 1; NEW 2;" + op + "; SHOW 3"), 0, 5, 0);
            CHECK.runs(op + " in a called method", Programs.mill("NEW 1; CALL 0 1 #3; SHOW 0", "", "", "(0)" + op), 1, 3);
        }
    }

    private static void nullThatIsNoFailure() {
        CHECK.sentence("1: a field or a lock of NULL (and nothing else of NULL)");
        EscapeMill mill = Programs.mill("COPY 1 0; STORE 0 0; FETCH 1 0; SAME 0 1 0; SHOW 0; NEW 2; PUTR 2 0 1; GETR 2 2 1;"
                + "CALL 1 2 0 #1; RETURN 1", "(2) RETURN 1");
        CHECK.runs("NULL that is handed on", mill, 0, 11, 1);
    }

    private static void unlockOfZero() {
        CHECK.sentence("2: UNLOCK of a count 0");
        for (String kept : new String[] {"STORE 2 0;", "COPY 3 2;", "SHOW 0;"}) {
            String made = "NEW 2;" + kept;
            int shown = kept.startsWith("SHOW") ? 1 : 0;
            CHECK.runs("count 0", Programs.mill(made + "UNLOCK 2; RETURN 0"), 2, 3, new int[shown]);
            CHECK.runs("count 1", Programs.mill(made + "LOCK 2; UNLOCK 2; RETURN 0"), 0, 5, new int[shown]);
            CHECK.runs("count 0 again", Programs.mill(made + "LOCK 2; UNLOCK 2; UNLOCK 2; RETURN 0"), 2, 5, new int[shown]);
        }
        CHECK.runs("of another object", Programs.mill("NEW 2; NEW 3; STORE 3 0; LOCK 3; UNLOCK 2"), 2, 5);
        CHECK.runs("of NULL it is 1", Programs.mill("UNLOCK 2"), 1, 1);
        EscapeMill far = Programs.mill("NEW 2; CALL 3 2 #1; UNLOCK 2; SHOW 0; CALL 3 2 #1; CALL 3 2 #2; UNLOCK 2", "(1) LOCK 0", "(1) UNLOCK 0");
        CHECK.runs("a count that others change", far, 2, 10, 0);
    }

    private static void callOfNoInstructions() {
        CHECK.sentence("3: CALL of a method that has no instruction");
        for (int n = 1; n <= 4; n++) {
            for (int many = 0; many <= 2; many++) {
                EscapeMill mill = Programs.mill("CALL 0 0 0 #" + n + "; SHOW 1");
                mill.parameters(n, many);
                CHECK.runs("method " + n + " with " + many, mill, 3, 1);
                mill.put(n, Ops.NULL, 0, 0, 0, 0);
                CHECK.runs("method " + n + " with one instruction", mill, 0, 3, 0);
                mill.clear(n);
                CHECK.runs("method " + n + " cleared", mill, 3, 1);
            }
        }
    }

    /** Method 1 calls itself until so many methods run, then does the rest, from its instruction 9 on. */
    private static EscapeMill deep(int many, String rest) {
        return Programs.mill("NEW 3; CALL 2 3 #1", "(1) GETI 0 0 0; CONST 1 #1; ADD 0 0 1; PUTI 0 0 0; CONST 2 #" + (1 - many)
                + "; ADD 2 0 2; ZERO 2 #9; CALL 3 0 #1; RETURN 3;" + rest);
    }

    private static void eightMethodsRun() {
        CHECK.sentence("3: CALL .. when 8 methods run");
        CHECK.runs("the eighth is called when 7 run", deep(8, "SHOW 0; RETURN 3"), 0, 2 + 6 * 9 + 9, 7);
        CHECK.runs("a ninth when 8 run", deep(8, "SHOW 0; CALL 3 3 #2; SHOW 0"), 3, 2 + 6 * 8 + 9, 7);
        EscapeMill ninth = deep(8, "SHOW 0; CALL 3 3 #2; SHOW 0");
        Programs.write(ninth, 2, "SHOW 0");
        CHECK.runs("a ninth that has an instruction", ninth, 3, 2 + 6 * 8 + 9, 7);
        EscapeMill eighth = deep(7, "SHOW 0; CALL 3 3 #2; SHOW 0");
        Programs.write(eighth, 2, "SHOW 0");
        CHECK.runs("an eighth that has one", eighth, 0, 2 + 5 * 9 + 7 + 4, 6, 0, 6);
        CHECK.runs("method 0 again and again", Programs.mill("SHOW 0; CALL 0 #0; LOCK 3"), 3, 16, 0, 0, 0, 0, 0, 0, 0, 0);
        EscapeMill row = Programs.mill("CALL 0 #1;".repeat(24), "CALL 0 #2", "NULL 0");
        CHECK.runs("methods that have ended do not run", row, 0, 72);
    }

    private static void fourHundredAndNoOther() {
        CHECK.sentence("4: the 400th instruction was done and another one would be (if there is no other, it is none)");
        CHECK.runs("399", Programs.mill(Programs.lead(399)), 0, 399);
        CHECK.runs("400", Programs.mill(Programs.lead(400)), 0, 400);
        CHECK.runs("the 400th is shown", Programs.mill(Programs.lead(399) + "SHOW 1"), 0, 400, -1);
        CHECK.runs("the 400th is RETURN", Programs.mill(Programs.lead(399) + "RETURN 2; SHOW 1"), 0, 400);
        CHECK.runs("the 400th jumps out", Programs.mill(Programs.lead(399) + "JUMP #24; SHOW 1"), 0, 400);
        CHECK.runs("the 400th jumps out, if 0", Programs.mill(Programs.lead(399) + "ZERO 0 #-1; SHOW 1"), 0, 400);
    }

    private static void fourHundredAndAnother() {
        CHECK.sentence("4: the 400th instruction was done and another one would be");
        CHECK.runs("401", Programs.mill(Programs.lead(401)), 4, 400);
        CHECK.runs("the 401st is not shown", Programs.mill(Programs.lead(399) + "SHOW 1; SHOW 1"), 4, 400, -1);
        CHECK.runs("the 401st is RETURN", Programs.mill(Programs.lead(400) + "RETURN 2"), 4, 400);
        CHECK.runs("the 401st jumps out", Programs.mill(Programs.lead(400) + "JUMP #24"), 4, 400);
        CHECK.runs("no end", Programs.mill("JUMP #0"), 4, 400);
    }

    private static void fourHundredInACalledMethod() {
        CHECK.sentence("4: the 400th instruction was done and another one would be (in whatever method)");
        EscapeMill last = Programs.mill("CALL 0 #1", Programs.lead(399));
        CHECK.runs("no other in the caller", last, 0, 400);
        Programs.add(last, 0, "SHOW 0");
        CHECK.runs("another in the caller", last, 4, 400);
        CHECK.runs("another in the called one", Programs.mill("CALL 0 #1", Programs.lead(400)), 4, 400);
        CHECK.runs("the 400th is CALL", Programs.mill(Programs.lead(399) + "CALL 0 #1", "SHOW 0"), 4, 400);
        CHECK.runs("the 399th is CALL", Programs.mill(Programs.lead(398) + "CALL 0 #1", "SHOW 0"), 0, 400, 0);
        EscapeMill given = Programs.mill("CALL 0 #1", Programs.lead(398) + "RETURN 0");
        CHECK.runs("the 400th is RETURN", given, 0, 400);
        Programs.add(given, 0, "LOCK 3");
        CHECK.runs("and another behind it", given, 4, 400);
        EscapeMill tower = Programs.mill("CALL 0 #1", "CALL 0 #2", "CALL 0 #3", "CALL 0 #4", Programs.lead(396));
        CHECK.runs("five methods end behind it", tower, 0, 400);
        Programs.add(tower, 2, "NULL 0");
        CHECK.runs("another in the third of five", tower, 4, 400);
    }

    private static void nothingElseIsLookedAt() {
        CHECK.sentence("4: .. (nothing else is looked at then)");
        for (String op : OF_R1) {
            CHECK.runs(op + " of NULL as 401st", Programs.mill(Programs.lead(400) + op), 4, 400);
        }
        CHECK.runs("UNLOCK of 0 as 401st", Programs.mill(Programs.lead(399) + "NEW 2; UNLOCK 2"), 4, 400);
        CHECK.runs("CALL of nothing as 401st", Programs.mill(Programs.lead(400) + "CALL 0 #1"), 4, 400);
        // Of deep(8, ..) 57 are done when 8 methods run.
        CHECK.runs("CALL when 8 run as 401st", deep(8, Programs.lead(343, 9) + "CALL 3 3 #1"), 4, 400);
        EscapeMill made = Programs.mill(Programs.lead(400) + "NEW 2; STORE 2 0");
        made.run(false);
        CHECK.due("NEW as 401st makes nothing", made.latest(3), 0);
    }

    private static void theFourHundredthFails() {
        CHECK.sentence("4: the 400th instruction was done .. (one that fails as the 400th has its own failure)");
        for (String op : OF_R1) {
            CHECK.runs(op + " of NULL as 400th", Programs.mill(Programs.lead(399) + op + "; SHOW 0"), 1, 400);
        }
        CHECK.runs("UNLOCK of 0 as 400th", Programs.mill(Programs.lead(398) + "NEW 2; UNLOCK 2; SHOW 0"), 2, 400);
        CHECK.runs("CALL of nothing as 400th", Programs.mill(Programs.lead(399) + "CALL 0 #1; SHOW 0"), 3, 400);
        CHECK.runs("CALL when 8 run as 400th", deep(8, Programs.lead(342, 9) + "CALL 3 3 #1"), 3, 400);
    }

    private static void runAnswers() {
        CHECK.sentence("Runs the program as written, or as milled. Answers 0, or the failure.");
        String[] ends = {"RETURN 0", "LOCK 2", "NEW 2; UNLOCK 2", "CALL 0 #1", "JUMP #0"};
        for (int failure = 0; failure < 5; failure++) {
            for (int k = 0; k < 2; k++) {
                CHECK.due(ends[failure], Programs.mill(ends[failure]).run(k == 1), failure);
            }
        }
    }

    private static void runTakesNothingFromTheProgram() {
        CHECK.sentence("Runs the program (which stays as it is)");
        EscapeMill mill = Programs.mill("NEW 2; LOCK 2; CALL 0 2 #1; SHOW 0; UNLOCK 3", "(1) GETI 0 0 0; SHOW 0; STORE 0 1");
        for (int k = 0; k < 3; k++) {
            CHECK.runs("run " + k, mill, 1, 8, 0, 0);
        }
        CHECK.due("instructions of method 0", mill.length(0), 5);
        CHECK.due("instructions of method 1", mill.length(1), 3);
        CHECK.due("its parameter", mill.summary(1, 0), 2);
    }

    /** A mill that shows 1, 2, 3 .. so many. */
    private static EscapeMill shows(int many) {
        return Programs.mill("CONST 1 #1; CONST 2 #" + -many + "; ZERO 2 #7; ADD 0 0 1; SHOW 0; ADD 2 2 1; JUMP #2");
    }

    private static void thirtyTwoAreKept() {
        CHECK.sentence("The i-th number that the latest run showed (0 the first; the first 32 are kept)");
        for (int many : new int[] {1, 2, 31, 32, 33, 34, 79}) {
            EscapeMill mill = shows(many);
            for (int k = 0; k < 2; k++) {
                CHECK.due("run with " + many, mill.run(k == 1), 0);
                CHECK.due("numbers shown, all of them", mill.latest(1), many);
                for (int i = 0; i < Math.min(many, 32); i++) {
                    CHECK.due("shown(" + i + ") of " + many, mill.shown(i), i + 1);
                }
            }
        }
        EscapeMill failed = Programs.mill("CONST 1 #5; SHOW 1; SHOW 0; LOCK 2; SHOW 1");
        failed.run(false);
        CHECK.due("before a failure", failed.shown(0), 5);
        CHECK.due("before a failure", failed.shown(1), 0);
    }

    private static void noneIsShown() {
        CHECK.sentence("IndexOutOfBoundsException: there is none");
        EscapeMill fresh = new EscapeMill();
        for (int i : new int[] {MIN, -1, 0, 1, 31, 32, MAX}) {
            CHECK.throwing("shown(" + i + ") before the first run", BOUNDS, () -> fresh.shown(i));
        }
        EscapeMill empty = new EscapeMill();
        empty.run(false);
        CHECK.throwing("shown(0) of a run without instructions", BOUNDS, () -> empty.shown(0));
        for (int many : new int[] {0, 1, 2, 31, 32, 33, 79}) {
            EscapeMill mill = shows(many);
            mill.run(many % 2 == 0);
            for (int i : new int[] {MIN, -33, -1, Math.min(many, 32), 32, 33, 79, MAX}) {
                CHECK.throwing("shown(" + i + ") of " + many, BOUNDS, () -> mill.shown(i));
            }
        }
        EscapeMill fewer = shows(33);
        fewer.run(false);
        Programs.write(fewer, 0, "SHOW 0");
        CHECK.due("the latest run is still that one", fewer.shown(31), 32);
        fewer.run(false);
        CHECK.due("now it is this one", fewer.shown(0), 0);
        CHECK.throwing("shown(1) of a run that showed fewer", BOUNDS, () -> fewer.shown(1));
        Programs.write(fewer, 0, "LOCK 0; SHOW 0");
        fewer.run(false);
        CHECK.throwing("shown(0) of a run that failed first", BOUNDS, () -> fewer.shown(0));
    }

    private static void refusedShownLeavesAll() {
        CHECK.sentence("IndexOutOfBoundsException: there is none (and a refused call leaves all as it was)");
        EscapeMill mill = Programs.mill("CONST 1 #5; SHOW 1; NEW 2; STORE 2 0; LOCK 2; UNLOCK 3");
        mill.run(true);
        CHECK.throwing("shown(1)", BOUNDS, () -> mill.shown(1));
        int[] due = {1, 1, 6, 1, 1};
        for (int what = 0; what < 5; what++) {
            CHECK.due("latest(" + what + ")", mill.latest(what), due[what]);
        }
        CHECK.due("shown(0)", mill.shown(0), 5);
    }

    private static void instructionsDone() {
        CHECK.sentence("2: instructions done (one that failed, with 1 to 3, counts)");
        String[] ends = {"NULL 0", "LOCK 3", "UNLOCK 2", "CALL 0 #1", "JUMP #2"};
        int[] done = {4, 4, 4, 4, 400};
        for (int failure = 0; failure < 5; failure++) {
            CHECK.runs(ends[failure], Programs.mill("NEW 2; STORE 2 0; CONST 0 #1;" + ends[failure]), failure, done[failure]);
        }
        CHECK.runs("none", new EscapeMill(), 0, 0);
    }

    private static void objects(String what, EscapeMill mill, int written, int milled) {
        mill.run(false);
        CHECK.due(what + ", as written", mill.latest(3), written);
        mill.run(true);
        CHECK.due(what + ", as milled", mill.latest(3), milled);
    }

    private static void objectsMade() {
        CHECK.sentence("3: objects made");
        objects("none", Programs.mill("SHOW 0"), 0, 0);
        objects("one that is stored", Programs.mill("NEW 2; STORE 2 0"), 1, 1);
        objects("parts", Programs.mill("NEW 2; LOCK 2"), 1, 0);
        objects("some in a called method", Programs.mill("NEW 2; STORE 2 0; CALL 2 #1", "NEW 2; NEW 3; RETURN 3"), 3, 2);
        objects("before a failure", Programs.mill("NEW 2; STORE 2 0; LOCK 3; NEW 2"), 1, 1);
        objects("as many as can be", Programs.mill("NEW 2;".repeat(23) + "JUMP #0"), 384, 384);
        objects("each time it is done", Programs.mill("NEW 2; JUMP #0"), 200, 0);
    }

    private static void locks(String what, EscapeMill mill, int written, int milled) {
        mill.run(false);
        CHECK.due(what + ", as written", mill.latest(4), written);
        mill.run(true);
        CHECK.due(what + ", as milled", mill.latest(4), milled);
    }

    private static void locksDone() {
        CHECK.sentence("4: LOCKs and UNLOCKs done on objects (not those on parts, and not those that failed)");
        locks("none", Programs.mill("NEW 2; SHOW 0"), 0, 0);
        locks("both kinds", Programs.mill("NEW 2; STORE 2 0; LOCK 2; LOCK 2; UNLOCK 2"), 3, 3);
        locks("on parts", Programs.mill("NEW 2; LOCK 2; LOCK 2; UNLOCK 2"), 3, 0);
        for (int r = 0; r < 4; r++) {
            String locked = "NEW 2; LOCK 2; UNLOCK 2; LOCK 2;".replace("2", "" + r);
            locks("on parts of R" + r, Programs.mill(locked), 3, 0);
            locks("on parts of R" + r + " in a called method", Programs.mill("CALL 0 #1", locked), 3, 0);
        }
        locks("of a pair", Programs.mill("NEW 2; COPY 3 2; LOCK 2; UNLOCK 2; LOCK 3"), 3, 1);
        locks("LOCK that failed", Programs.mill("NEW 2; STORE 2 0; LOCK 2; LOCK 3"), 1, 1);
        locks("UNLOCK of NULL", Programs.mill("NEW 2; STORE 2 0; LOCK 2; UNLOCK 3"), 1, 1);
        locks("UNLOCK of a count 0", Programs.mill("NEW 2; STORE 2 0; LOCK 2; UNLOCK 2; UNLOCK 2"), 2, 2);
        locks("UNLOCK of a count 0, of parts", Programs.mill("NEW 2; LOCK 2; UNLOCK 2; UNLOCK 2"), 2, 0);
        locks("in a called method", Programs.mill("NEW 2; LOCK 2; CALL 3 2 #1; UNLOCK 2", "(1) LOCK 0; NEW 2; LOCK 2"), 4, 3);
    }

    private static void anotherWhat() {
        CHECK.sentence("NONE for another what");
        EscapeMill mill = Programs.mill("NEW 2; LOCK 2; SHOW 0; LOCK 3");
        for (int k = 0; k < 2; k++) {
            for (int what : new int[] {MIN, -2, -1, 5, 6, 32, MAX}) {
                CHECK.due("latest(" + what + ") behind " + k + " runs", mill.latest(what), EscapeMill.NONE);
            }
            mill.run(false);
        }
    }

    private static void beforeTheFirstRun() {
        CHECK.sentence("all 0 before the first run");
        EscapeMill mill = Programs.mill("NEW 2; LOCK 2; SHOW 0; LOCK 3");
        mill.fate(0, 0);
        mill.clear(1);
        for (int what = 0; what < 5; what++) {
            CHECK.due("latest(" + what + ") of a new object", new EscapeMill().latest(what), 0);
            CHECK.due("latest(" + what + ") behind other calls", mill.latest(what), 0);
        }
    }

    private static void ofTheLatestRun() {
        CHECK.sentence("Of the latest run");
        EscapeMill mill = Programs.mill("NEW 2; STORE 2 0; LOCK 2; SHOW 0; SHOW 0; LOCK 3");
        mill.run(false);
        mill.run(false);
        int[] due = {1, 2, 6, 1, 1};
        mill.put(0, Ops.SHOW, 0, 0, 0, 0);
        mill.parameters(0, 2);
        mill.clear(0);
        mill.may(0, 0);
        for (int what = 0; what < 5; what++) {
            CHECK.due("latest(" + what + ") until the next run", mill.latest(what), due[what]);
        }
        mill.run(true);
        for (int what = 0; what < 5; what++) {
            CHECK.due("latest(" + what + ") of a run of nothing", mill.latest(what), 0);
        }
    }
}
