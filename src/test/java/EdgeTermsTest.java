/** The boundary cases that the section "Terms" names of programs that run, sentence by sentence. */
public final class EdgeTermsTest {
    private static final Check CHECK = new Check("EdgeTermsTest");
    private static final int MIN = Integer.MIN_VALUE;
    private static final int MAX = Integer.MAX_VALUE;

    public static void main(String[] args) {
        methodsAndInstructions();
        variablesAtFirst();
        parametersInTheirPlace();
        objectsAtFirst();
        objectsOfTheirOwn();
        globalsAtFirst();
        anyIntIsAnN();
        addWraps();
        sameOfNull();
        countOfLocks();
        zeroAlone();
        argumentsOfACall();
        returnEndsAMethod();
        behindTheLastInstruction();
        parametersOfMethodZero();
        jumpsToNoInstruction();
        doingNothingCounts();
        fiveHundredAndTwelveCalls();
        CHECK.end();
    }

    private static void methodsAndInstructions() {
        CHECK.sentence("METHODS 0 .. 4, each with .. INSTRUCTIONS 0, 1, .. (at most 24)");
        CHECK.runs("the 24th of method 0", Programs.mill("CONST 0 #1;".repeat(23) + "SHOW 0"), 0, 24, 1);
        for (int m = 1; m <= 4; m++) {
            EscapeMill mill = Programs.mill("CALL 0 #" + m + "; SHOW 3");
            Programs.write(mill, m, "CONST 3 #" + m + ";" + "NULL 3;".repeat(22) + "SHOW 3");
            CHECK.runs("the 24th of method " + m, mill, 0, 26, m, 0);
        }
    }

    private static void variablesAtFirst() {
        CHECK.sentence("references R0 .. R3 and ints I0 .. I3, NULL and 0 at first");
        String dirty = "NEW 0; NEW 1; NEW 2; NEW 3; CONST 0 #7; CONST 1 #7; CONST 2 #7; CONST 3 #7;";
        for (int v = 0; v < 4; v++) {
            CHECK.runs("R" + v, Programs.mill("SHOW " + v + "; LOCK " + v), 1, 2, 0);
            // Called twice, as the first call leaves its variables behind.
            EscapeMill called = Programs.mill(dirty + "CALL 0 0 0 #1; CALL 0 0 0 #2", dirty, "SHOW " + v + "; LOCK " + v);
            CHECK.runs("R" + v + " and I" + v + " of a called method", called, 1, 20, 0);
            EscapeMill caller = Programs.mill(dirty + "CALL " + (v + 1) % 4 + " #1; LOCK " + v + "; SHOW " + v, "NULL 0");
            CHECK.runs("R" + v + " and I" + v + " of the caller are left alone", caller, 0, 12, 7);
        }
    }

    private static void parametersInTheirPlace() {
        CHECK.sentence("but its parameters are in R0 and R1");
        String callee = "SAME 0 0 3; SHOW 0; SAME 0 1 3; SHOW 0; SAME 0 2 3; SHOW 0; GETI 0 0 0; SHOW 0; GETI 0 1 0; SHOW 0";
        String caller = "NEW 2; NEW 3; CONST 0 #5; PUTI 2 0 0; CONST 0 #6; PUTI 3 0 0; CALL 0 2 3 #1";
        CHECK.runs("none", Programs.mill(caller, "(0)" + callee), 1, 14, 1, 1, 1);
        CHECK.runs("one", Programs.mill(caller, "(1)" + callee), 1, 16, 0, 1, 1, 5);
        CHECK.runs("two", Programs.mill(caller, "(2)" + callee), 0, 17, 0, 0, 1, 5, 6);
    }

    private static void objectsAtFirst() {
        CHECK.sentence("OBJECTS have references F0, F1 and ints G0, G1, NULL and 0 at first, and a COUNT of locks");
        String look = "GETR 1 2 0; SAME 0 1 3; SHOW 0; GETR 1 2 1; SAME 0 1 3; SHOW 0; GETI 0 2 0; SHOW 0; GETI 0 2 1; SHOW 0;";
        String fill = "CONST 1 #9; PUTI 2 1 0; PUTI 2 1 1; PUTR 2 0 0; PUTR 2 0 1; LOCK 2;";
        // Stored it is an object in both runs; else it is parts in the run as milled.
        for (String kept : new String[] {"STORE 2 0;", "NULL 3;"}) {
            EscapeMill once = Programs.mill("NEW 0; NEW 2;" + look + fill + kept);
            CHECK.runs("in the first run", once, 0, 19, 1, 1, 0, 0);
            CHECK.runs("in a later run", once, 0, 19, 1, 1, 0, 0);
            EscapeMill twice = Programs.mill("NEW 0; CONST 2 #1; CONST 3 #-2; NEW 2;" + look + fill
                    + "ADD 3 3 2; ZERO 3 #23; JUMP #3;" + kept);
            CHECK.runs("made a second time", twice, 0, 43, 1, 1, 0, 0, 1, 1, 0, 0);
            CHECK.runs("its count is 0", Programs.mill("NEW 2; UNLOCK 2;" + kept), 2, 2);
            EscapeMill locked = Programs.mill("CONST 1 #1; CONST 0 #-2; NEW 2; LOCK 2; ADD 0 0 1; ZERO 0 #7; JUMP #2;"
                    + "UNLOCK 2; UNLOCK 2;" + kept);
            CHECK.runs("the count made a second time", locked, 2, 13);
        }
    }

    private static void objectsOfTheirOwn() {
        CHECK.sentence("NEW: Rx is a new object (and the others are left alone)");
        String fill = "CONST 0 #8; CONST 1 #9; PUTI a 0 0; PUTI a 1 1; PUTR a 3 0; PUTR a 3 1; LOCK a;";
        String look = "GETI 2 a 0; SHOW 2; GETI 2 a 1; SHOW 2; GETR c a 0; LOCK c; GETR c a 1; LOCK c; UNLOCK a;";
        for (String abc : new String[] {"012", "021", "102", "120", "201", "210"}) {
            for (String kept : new String[] {"", "STORE a 0;", "STORE b 0;"}) {
                String text = "NEW 3;" + kept + "NEW a;" + fill + "NEW b;" + look;
                for (int k = 0; k < 3; k++) {
                    text = text.replace("abc".charAt(k) + "", abc.charAt(k) + "");
                }
                CHECK.runs(text, Programs.mill(text), 0, kept.isEmpty() ? 19 : 20, 8, 9);
            }
        }
        EscapeMill called = Programs.mill("NEW 2; CONST 0 #8; PUTI 2 0 0; PUTI 2 0 1; CALL 0 #1; GETI 1 2 0; SHOW 1; GETI 1 2 1; SHOW 1",
                "NEW 0; NEW 1; NEW 2; NEW 3");
        CHECK.runs("in a called method", called, 0, 13, 8, 8);
    }

    private static void globalsAtFirst() {
        CHECK.sentence("There are GLOBALS 0 .. 3, references, NULL at first");
        for (int g = 0; g < 4; g++) {
            EscapeMill mill = Programs.mill("FETCH 0 " + g + "; SAME 0 0 3; SHOW 0; NEW 1; STORE 1 " + g + "; CALL 2 #1",
                    "FETCH 1 0; SAME 0 1 3; SHOW 0; FETCH 1 1; SAME 0 1 3; SHOW 0; FETCH 1 2; SAME 0 1 3; SHOW 0;"
                    + "FETCH 1 3; SAME 0 1 3; SHOW 0");
            int[] due = {1, 1, 1, 1, 1};
            due[1 + g] = 0;
            CHECK.runs("global " + g, mill, 0, 18, due);
            CHECK.runs("global " + g + " in a later run", mill, 0, 18, due);
        }
    }

    private static void anyIntIsAnN() {
        CHECK.sentence("n (an int)");
        for (int n : new int[] {MIN, MIN + 1, -1, 0, 1, 24, MAX - 1, MAX}) {
            CHECK.runs("CONST of " + n, Programs.mill("CONST 2 #" + n + "; SHOW 2"), 0, 2, n);
        }
    }

    private static void addWraps() {
        CHECK.sentence("ADD: Ix = Iy + Iz (wraps)");
        int[][] sums = {{MAX, 1, MIN}, {MIN, -1, MAX}, {MIN, MIN, 0}, {MAX, MAX, -2}, {MAX, MIN, -1}, {MAX, 0, MAX}, {MIN, 0, MIN}};
        for (int[] s : sums) {
            EscapeMill mill = Programs.mill("CONST 1 #" + s[0] + "; CONST 2 #" + s[1] + "; ADD 3 1 2; SHOW 3; ADD 1 2 1; SHOW 1");
            CHECK.runs(s[0] + " and " + s[1], mill, 0, 6, s[2], s[2]);
        }
    }

    private static void sameOfNull() {
        CHECK.sentence("SAME: Ix = 1 if Ry is Rz, else 0");
        CHECK.runs("NULL is NULL", Programs.mill("SAME 1 2 3; SHOW 1; SAME 1 2 2; SHOW 1"), 0, 4, 1, 1);
        CHECK.runs("NULL is no object", Programs.mill("NEW 2; CONST 1 #5; SAME 1 2 3; SHOW 1; SAME 0 3 2; SHOW 0"), 0, 6, 0, 0);
        CHECK.runs("an object is itself", Programs.mill("NEW 2; COPY 3 2; SAME 1 2 2; SHOW 1; SAME 1 3 2; SHOW 1"), 0, 6, 1, 1);
        CHECK.runs("two objects that hold the same", Programs.mill("NEW 2; NEW 3; SAME 1 2 3; SHOW 1"), 0, 4, 0);
        CHECK.runs("parts are themselves", Programs.mill("NEW 2; SAME 1 2 2; SHOW 1"), 0, 3, 1);
    }

    private static void countOfLocks() {
        CHECK.sentence("LOCK: the count of Rx grows by 1 .. UNLOCK: it falls by 1");
        for (int many = 0; many <= 10; many++) {
            for (String kept : new String[] {"STORE 2 0;", "NULL 3;"}) {
                String even = "NEW 2;" + kept + "LOCK 2;".repeat(many) + "UNLOCK 2;".repeat(many);
                CHECK.runs(many + " each", Programs.mill(even), 0, 2 + 2 * many);
                CHECK.runs("one UNLOCK more than " + many, Programs.mill(even + "UNLOCK 2; SHOW 0"), 2, 3 + 2 * many);
            }
        }
    }

    private static void zeroAlone() {
        CHECK.sentence("ZERO: goes on there, if Ix is 0");
        for (int value : new int[] {0, 1, -1, 2, MIN, MAX}) {
            EscapeMill mill = Programs.mill("CONST 2 #" + value + "; ZERO 2 #3; SHOW 2; CONST 1 #5; SHOW 1");
            if (value == 0) {
                CHECK.runs("0", mill, 0, 4, 5);
            } else {
                CHECK.runs("" + value, mill, 0, 5, value, 5);
            }
        }
        CHECK.runs("a sum that wraps to 0", Programs.mill("CONST 2 #" + MIN + "; ADD 2 2 2; ZERO 2 #4; SHOW 3; SHOW 2"), 0, 4, 0);
    }

    private static void argumentsOfACall() {
        CHECK.sentence("CALL: Rx is what method n gives for Ry (and Rz, if it has two parameters)");
        String caller = "NEW 2; CONST 1 #2; PUTI 2 1 0; NEW 3; CONST 1 #3; PUTI 3 1 0; CALL 1 2 3 #4; GETI 1 1 0; SHOW 1";
        int[][] gifts = {{0, 0, 0}, {0, 1, 0}, {1, 0, 2}, {1, 1, 0}, {2, 0, 2}, {2, 1, 3}};
        for (int[] g : gifts) {
            EscapeMill mill = Programs.mill(caller);
            Programs.write(mill, 4, "(" + g[0] + ") RETURN " + g[1]);
            String told = "R" + g[1] + " of a method with " + g[0];
            if (g[2] == 0) {
                CHECK.runs(told, mill, 1, 9);
            } else {
                CHECK.runs(told, mill, 0, 10, g[2]);
            }
        }
        EscapeMill same = Programs.mill("NEW 2; CALL 2 2 2 #1; SAME 0 2 3; SHOW 0", "(2) SAME 0 0 1; SHOW 0; NULL 0");
        CHECK.runs("one object twice, and Rx is Ry", same, 0, 7, 1, 1);
    }

    private static void returnEndsAMethod() {
        CHECK.sentence("RETURN: Rx is given");
        CHECK.runs("method 0 ends", Programs.mill("SHOW 0; RETURN 3; SHOW 0; LOCK 3"), 0, 2, 0);
        EscapeMill mill = Programs.mill("NEW 2; CALL 2 #1; SAME 0 2 3; SHOW 0", "RETURN 1; SHOW 0");
        CHECK.runs("NULL is given", mill, 0, 5, 1);
    }

    private static void behindTheLastInstruction() {
        CHECK.sentence("Behind its last instruction a method gives NULL");
        CHECK.runs("method 0 without instructions", new EscapeMill(), 0, 0);
        for (String callee : new String[] {"(1) NEW 1; NEW 2", "(1) ZERO 0 #2; SHOW 0", "(1) JUMP #9; RETURN 0", "(1)" + "COPY 3 0;".repeat(24)}) {
            EscapeMill mill = Programs.mill("NEW 2; CALL 2 2 0 #1; SAME 0 2 3; SHOW 0", callee);
            mill.run(false);
            CHECK.runs(callee, mill, 0, mill.latest(2), 1);
        }
    }

    private static void parametersOfMethodZero() {
        CHECK.sentence("RUNNING: method 0, whose parameters are NULL");
        for (int many = 0; many <= 2; many++) {
            for (int r = 0; r < 2; r++) {
                CHECK.runs("R" + r + " of " + many, Programs.mill("(" + many + ") SHOW 0; LOCK " + r), 1, 2, 0);
            }
        }
        EscapeMill mill = Programs.mill("(2) SAME 0 0 1; SHOW 0; NEW 3; SAME 1 0 2; ZERO 1 #7; CALL 2 3 1 #0; SHOW 0", "SHOW 0");
        CHECK.runs("called, it has what it is called with", mill, 0, 12, 1, 0, 1);
        CHECK.runs("no other method runs by itself", Programs.mill("", "SHOW 0", "LOCK 0", "SHOW 0", "SHOW 0"), 0, 0);
    }

    private static void jumpsToNoInstruction() {
        CHECK.sentence("A jump to a place that is no instruction goes behind the last one");
        for (String op : new String[] {"JUMP", "ZERO 3"}) {
            for (int n : new int[] {-1, 3, 4, 23, 24, 25, MIN, MAX}) {
                CHECK.runs(op + " to " + n, Programs.mill("SHOW 0;" + op + " #" + n + "; SHOW 1"), 0, 2, 0);
                EscapeMill called = Programs.mill("NEW 2; CALL 2 #1; SAME 1 2 3; SHOW 1", "NEW 1;" + op + " #" + n + "; RETURN 1");
                CHECK.runs(op + " to " + n + " in a called method", called, 0, 6, 1);
            }
            CHECK.runs(op + " to the last one", Programs.mill("SHOW 0;" + op + " #3; SHOW 1; SHOW 2"), 0, 3, 0, 0);
            EscapeMill back = Programs.mill("SHOW 0; ZERO 1 #3; RETURN 3; CONST 1 #1;" + op + " #0");
            CHECK.runs(op + " to the first one", back, 0, 7, 0, 0);
            EscapeMill full = Programs.mill(op + " #23;" + "SHOW 0;".repeat(22) + "SHOW 1");
            CHECK.runs(op + " to the 24th", full, 0, 2, 0);
            EscapeMill cleared = Programs.mill("SHOW 0; SHOW 0; SHOW 0; SHOW 0");
            Programs.write(cleared, 0, op + " #2; SHOW 1");
            CHECK.runs(op + " to where there was one", cleared, 0, 1);
        }
    }

    private static void doingNothingCounts() {
        CHECK.sentence("with as many instructions (also one that does nothing counts), but makes fewer objects and locks fewer");
        EscapeMill mill = Programs.mill("NEW 2; COPY 3 2; LOCK 2; UNLOCK 2; NEW 1; LOCK 1; JUMP #2");
        CHECK.fates("a pair and parts", mill, 0, 0, 2, 2, 1, 1, 0);
        CHECK.runs("to the limit", mill, 4, 400);
        mill.run(false);
        CHECK.due("objects as written", mill.latest(3), 1 + 80);
        CHECK.due("locks as written", mill.latest(4), 2 * 80 + 79);
        mill.run(true);
        CHECK.due("objects as milled", mill.latest(3), 1);
        CHECK.due("locks as milled", mill.latest(4), 0);
    }

    private static void fiveHundredAndTwelveCalls() {
        CHECK.sentence("An object is used for at most 512 calls after it has been made");
        EscapeMill mill = new EscapeMill();
        // 16 times 32 calls, each time the same.
        for (int round = 0; round < 16; round++) {
            for (int i = 0; i < 24; i++) {
                CHECK.due("put in round " + round, mill.put(0, i < 23 ? Ops.NEW : Ops.JUMP, 2, 0, 0, 0), i);
            }
            CHECK.due("may in round " + round, mill.may(0, 2), (1 << 23) - 1);
            CHECK.due("run in round " + round, mill.run(round % 2 == 1), 4);
            CHECK.due("objects in round " + round, mill.latest(3), 384);
            CHECK.due("instructions in round " + round, mill.latest(2), 400);
            CHECK.due("escape in round " + round, mill.escape(0, 22), 0);
            CHECK.due("fate in round " + round, mill.fate(0, 22), 0);
            CHECK.due("length in round " + round, mill.length(0), 24);
            CHECK.due("clear in round " + round, mill.clear(0), 24);
        }
    }
}
