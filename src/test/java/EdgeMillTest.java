/** The boundary cases of milling and of promise 10, sentence by sentence. */
public final class EdgeMillTest {
    private static final Check CHECK = new Check("EdgeMillTest");
    private static final int NONE = EscapeMill.NONE;
    private static final int MIN = Integer.MIN_VALUE;
    private static final int MAX = Integer.MAX_VALUE;
    private static final String[] USES_OF_R2 = {"GETR 1 2 0", "GETI 1 2 1", "PUTR 2 1 1", "PUTI 2 1 0", "LOCK 2", "UNLOCK 2",
        "SAME 0 2 1", "SAME 0 1 2", "SAME 0 2 2"};

    public static void main(String[] args) {
        definingInstructions();
        zeroDoesBoth();
        nothingGoesOnBehindReturn();
        nothingGoesOnBehindJump();
        waysFromInstructionZero();
        noWayAtAll();
        noParameters();
        definedByThisAlone();
        notHandedOn();
        noArgument();
        everyUseIsDominated();
        partsAreNoObject();
        sameOfParts();
        aboveTheLock();
        pairOfAPlainNew();
        pairOfEscapeZero();
        pairIsDominated();
        betweenThem();
        jumpsFromIPlusOneToJ();
        theTwoDoNothing();
        fateStays();
        fateOfNoInstruction();
        CHECK.end();
    }

    private static void definingInstructions() {
        CHECK.sentence("DEFINING a reference Rx are NEW, COPY, NULL, GETR, FETCH and CALL");
        for (int op = 0; op <= 18; op++) {
            boolean defines = op == Ops.NEW || op == Ops.COPY || op == Ops.NULL || op == Ops.GETR || op == Ops.FETCH || op == Ops.CALL;
            boolean handsOn = op == Ops.STORE || op == Ops.RETURN;
            EscapeMill mill = Programs.mill("NEW 2", "SHOW 0");
            mill.put(0, op, 2, 1, 0, op == Ops.CALL ? 1 : 0);
            CHECK.due("op " + op + " with x 2", mill.fate(0, 0), defines || handsOn ? 0 : 1);
            EscapeMill other = Programs.mill("NEW 2", "SHOW 0");
            other.put(0, op, 3, 1, 0, op == Ops.CALL ? 1 : 0);
            CHECK.due("op " + op + " with x 3", other.fate(0, 0), 1);
        }
    }

    private static void zeroDoesBoth() {
        CHECK.sentence("by going on and jumping (ZERO does both ..)");
        CHECK.fates("it jumps over the NEW", Programs.mill("ZERO 0 #2; NEW 2; LOCK 2"), 0, 0, 0);
        CHECK.fates("it goes on to the NEW and to the use", Programs.mill("ZERO 0 #3; LOCK 2; RETURN 1; NEW 2; JUMP #1"), 0, 0, 0, 0, 0);
        CHECK.fates("it jumps to the NEW alone", Programs.mill("NEW 2; LOCK 2; ZERO 0 #0; LOCK 2"), 1, 1, 0, 1);
        CHECK.fates("it jumps behind the last one", Programs.mill("ZERO 0 #9; NEW 2; LOCK 2"), 0, 1, 1);
        CHECK.fates("it jumps to what comes next", Programs.mill("ZERO 0 #1; NEW 2; LOCK 2"), 0, 1, 1);
        CHECK.fates("an I that is never 0 is not looked at", Programs.mill("CONST 0 #1; ZERO 0 #3; NEW 2; LOCK 2"), 0, 0, 0, 0);
    }

    private static void nothingGoesOnBehindReturn() {
        CHECK.sentence("nothing goes on behind RETURN and JUMP (RETURN)");
        CHECK.fates("RETURN", Programs.mill("ZERO 0 #2; RETURN 1; NEW 2; LOCK 2"), 0, 0, 1, 1);
        CHECK.fates("the use behind RETURN", Programs.mill("ZERO 0 #3; SHOW 0; RETURN 1; NEW 2; LOCK 2"), 0, 0, 0, 1, 1);
        CHECK.fates("going on without it", Programs.mill("ZERO 0 #3; SHOW 0; JUMP #4; NEW 2; LOCK 2"), 0, 0, 0, 0, 0);
    }

    private static void nothingGoesOnBehindJump() {
        CHECK.sentence("nothing goes on behind RETURN and JUMP (JUMP)");
        CHECK.fates("JUMP over the use", Programs.mill("JUMP #2; LOCK 2; NEW 2; ZERO 0 #1"), 0, 1, 1, 0);
        CHECK.fates("JUMP out", Programs.mill("ZERO 0 #2; JUMP #9; NEW 2; LOCK 2"), 0, 0, 1, 1);
        CHECK.fates("JUMP over the NEW", Programs.mill("JUMP #2; NEW 2; LOCK 2"), 0, 0, 0);
        CHECK.fates("JUMP to the first one", Programs.mill("NEW 2; LOCK 2; JUMP #0"), 1, 1, 0);
        EscapeMill far = Programs.mill("JUMP #23;" + "SHOW 0;".repeat(21) + "NEW 2; LOCK 2");
        CHECK.due("JUMP to the 24th, over the NEW", far.fate(0, 22), 0);
        CHECK.due("its use", far.fate(0, 23), 0);
    }

    private static void waysFromInstructionZero() {
        CHECK.sentence("DOMINATED by another one if every way from instruction 0 to it .. goes over that one");
        CHECK.fates("instruction 0 dominates all", Programs.mill("NEW 2; ZERO 0 #3; LOCK 2; LOCK 2; ZERO 1 #2"), 1, 0, 1, 1, 0);
        CHECK.fates("the use is instruction 0", Programs.mill("LOCK 2; NEW 2; JUMP #0"), 0, 0, 0);
        CHECK.fates("two ways that both go over it", Programs.mill("NEW 2; ZERO 0 #4; SHOW 0; JUMP #5; SHOW 1; LOCK 2"), 1, 0, 0, 0, 0, 1);
        CHECK.fates("two ways, one round it", Programs.mill("ZERO 0 #3; NEW 2; JUMP #4; SHOW 1; LOCK 2"), 0, 0, 0, 0, 0);
        String chain = "ZERO 0 #22;" + "SHOW 0;".repeat(20) + "NEW 2; LOCK 2; SHOW 0";
        CHECK.due("a short way round it", Programs.mill(chain).fate(0, 21), 0);
        CHECK.due("a short way behind its use", Programs.mill(chain.replace("#22", "#23")).fate(0, 21), 1);
        for (int op = 1; op <= 18; op++) {
            if (op != Ops.JUMP && op != Ops.ZERO && op != Ops.RETURN) {
                EscapeMill mill = new EscapeMill();
                mill.put(0, op, 1, 1, 1, 2);
                Programs.add(mill, 0, "NEW 2; LOCK 2");
                CHECK.fates("the n of op " + op + " is no way", mill, 0, 1, 1);
            }
        }
        // Both ways go backwards step by step, from 21 to 1 and from 23 to 4: as long as a way can be.
        EscapeMill over = Programs.mill("JUMP #22; LOCK 2;" + backwards(2, 21, 1) + "NEW 2; JUMP #21");
        CHECK.due("a long way over it", over.fate(0, 22), 1);
        CHECK.due("its use", over.fate(0, 1), 1);
        EscapeMill round = Programs.mill("ZERO 0 #23; NEW 2; LOCK 2; RETURN 1;" + backwards(4, 23, 2));
        CHECK.fates("a long way round it", round, 0, 0, 0);
    }

    /** Jumps at these places, each to the one before it, the first of them to this goal. */
    private static String backwards(int first, int last, int goal) {
        StringBuilder text = new StringBuilder("JUMP #" + goal + ";");
        for (int i = first + 1; i <= last; i++) {
            text.append("JUMP #").append(i - 1).append(';');
        }
        return text.toString();
    }

    private static void noWayAtAll() {
        CHECK.sentence("every way from instruction 0 to it (there is none, so every one of none)");
        CHECK.fates("no way to the use", Programs.mill("ZERO 0 #3; NEW 2; RETURN 1; RETURN 1; LOCK 2"), 0, 1, 0, 0, 1);
        CHECK.fates("no way to the NEW", Programs.mill("LOCK 2; RETURN 1; NEW 2"), 0, 0, 0);
        CHECK.fates("no way to both", Programs.mill("RETURN 1; LOCK 2; NEW 2"), 0, 1, 1);
    }

    private static void noParameters() {
        CHECK.sentence("TAKEN APART is the site of a NEW whose Rx is no parameter's");
        for (int r = 0; r < 4; r++) {
            for (int many = 0; many <= 2; many++) {
                EscapeMill mill = Programs.mill("(" + many + ") NEW " + r + "; LOCK " + r);
                int due = r >= many ? 1 : 0;
                CHECK.fates("R" + r + " with " + many, mill, due, due);
            }
        }
    }

    private static void definedByThisAlone() {
        CHECK.sentence("is defined by this NEW alone");
        for (String other : new String[] {"NEW 2", "COPY 2 1", "COPY 2 3", "NULL 2", "GETR 2 1 0", "GETR 2 2 0", "FETCH 2 0", "CALL 2 1 1 #1"}) {
            CHECK.fates(other + " behind", Programs.mill("NEW 2; LOCK 2; SHOW 0;" + other), 0, 0, 0, 0);
            CHECK.fates(other + " before", Programs.mill(other + "; NEW 2; LOCK 2"), 0, 0, 0);
            CHECK.fates(other + " that is never done", Programs.mill("NEW 2; LOCK 2; RETURN 1;" + other), 0, 0, 0, 0);
        }
        CHECK.fates("each R by itself", Programs.mill("NEW 2; NEW 3; NEW 3; LOCK 2; LOCK 3"), 1, 0, 0, 1, 0);
    }

    private static void notHandedOn() {
        CHECK.sentence("is not the y of a COPY or PUTR, the x of a STORE or RETURN");
        for (String way : new String[] {"COPY 3 2", "PUTR 1 2 0", "PUTR 2 2 1", "STORE 2 0", "RETURN 2"}) {
            CHECK.fates(way, Programs.mill("NEW 2; GETI 0 2 0; " + way), 0, 0, 0);
            CHECK.fates(way + " that is never done", Programs.mill("NEW 2; JUMP #9; " + way), 0, 0, 0);
            CHECK.fates(way + " before it", Programs.mill(way + "; NEW 2"), 0, 0);
        }
        for (String other : new String[] {"COPY 3 1", "PUTR 2 1 0", "STORE 1 2", "RETURN 1", "PUTI 1 2 0", "SHOW 2", "ZERO 2 #1", "ADD 2 2 2"}) {
            CHECK.due(other, Programs.mill("NEW 2; " + other).fate(0, 0), 1);
        }
    }

    private static void noArgument() {
        CHECK.sentence("or an argument");
        int[][] due = {{1, 1}, {0, 1}, {0, 0}};
        for (int n = 0; n < 5; n++) {
            for (int many = 0; many <= 2; many++) {
                EscapeMill mill = Programs.mill("NEW 2; NEW 3; CALL 1 2 3 #" + n);
                mill.parameters(n, many);
                CHECK.fates("method " + n + " with " + many, mill, due[many][0], due[many][1], 0);
            }
        }
        EscapeMill later = Programs.mill("NEW 2; CALL 1 2 2 #4", "", "", "", "SHOW 0");
        CHECK.due("no parameter", later.fate(0, 0), 1);
        later.parameters(4, 1);
        CHECK.due("a parameter from now on", later.fate(0, 0), 0);
    }

    private static void everyUseIsDominated() {
        CHECK.sentence("and if all GETR and GETI with it as Ry, and PUTR, PUTI, LOCK and UNLOCK with it as Rx, and SAME with it as Ry or Rz, are dominated by the NEW");
        for (String use : USES_OF_R2) {
            CHECK.fates(use + " behind it", Programs.mill("NEW 2;" + use), 1, 1);
            CHECK.fates(use + " before it", Programs.mill(use + "; NEW 2"), 0, 0);
            CHECK.fates(use + " on a way round it", Programs.mill("ZERO 0 #2; NEW 2;" + use), 0, 0, 0);
            CHECK.fates(use + " twice, one before it", Programs.mill(use + "; NEW 2;" + use), 0, 0, 0);
        }
        for (String other : new String[] {"GETR 1 3 0", "GETI 2 3 1", "PUTR 3 1 1", "PUTI 3 2 0", "LOCK 3", "UNLOCK 3", "SAME 2 3 1"}) {
            CHECK.fates(other + " before it", Programs.mill(other + "; NEW 2"), 0, 1);
        }
    }

    private static void partsAreNoObject() {
        CHECK.sentence("this NEW makes no object, but PARTS: F0, F1, G0, G1 and a count, NULL and 0");
        EscapeMill mill = Programs.mill("NEW 2; NEW 3; CONST 1 #4; CONST 2 #5; PUTI 2 1 0; PUTI 2 2 1; STORE 3 0; PUTR 2 3 1; GETI 0 2 0;"
                + "SHOW 0; GETI 0 2 1; SHOW 0; GETR 1 2 0; SAME 0 1 3; SHOW 0; GETR 1 2 1; SAME 0 1 3; SHOW 0; LOCK 2; UNLOCK 2; UNLOCK 2");
        CHECK.runs("parts", mill, 2, 21, 4, 5, 0, 1);
        CHECK.due("objects", mill.latest(3), 1);
        CHECK.due("locks", mill.latest(4), 0);
        EscapeMill deep = Programs.mill("NEW 2; CONST 0 #1; PUTI 2 0 0; LOCK 2; CALL 3 #1; GETI 1 2 0; SHOW 1; UNLOCK 2; UNLOCK 2",
                "NEW 2; GETI 1 2 0; SHOW 1; CONST 0 #2; PUTI 2 0 0; LOCK 2");
        CHECK.runs("each method that runs has its own", deep, 2, 15, 0, 1);
        CHECK.due("no object", deep.latest(3), 0);
    }

    private static void sameOfParts() {
        CHECK.sentence("SAME is 1 if Ry and Rz are the same R, else 0");
        String[] looks = {"SAME 0 2 2", "SAME 0 2 1", "SAME 0 1 2", "SAME 0 2 3", "SAME 0 3 2", "SAME 0 3 3"};
        int[] due = {1, 0, 0, 0, 0, 1};
        for (int k = 0; k < looks.length; k++) {
            EscapeMill mill = Programs.mill("NEW 2; NEW 3;" + looks[k] + "; SHOW 0");
            CHECK.fates(looks[k], mill, 1, 1, 1, 0);
            CHECK.runs(looks[k], mill, 0, 4, due[k]);
        }
    }

    /** A NEW of R2 that is copied, so that it is not taken apart, and then these. */
    private static EscapeMill copied(String code) {
        return Programs.mill("NEW 2; COPY 3 2;" + code);
    }

    private static void aboveTheLock() {
        CHECK.sentence("A PAIR are a LOCK of Rx at i and an UNLOCK of Rx at j above i");
        CHECK.fates("next to one another", copied("LOCK 2; UNLOCK 2"), 0, 0, 2, 2);
        CHECK.fates("as far from one another as can be", copied("LOCK 2;" + "SHOW 0;".repeat(20) + "UNLOCK 2"), 0, 0, 2);
        CHECK.due("the last one", copied("LOCK 2;" + "SHOW 0;".repeat(20) + "UNLOCK 2").fate(0, 23), 2);
        CHECK.fates("the UNLOCK first", copied("UNLOCK 2; LOCK 2"), 0, 0, 0, 0);
        CHECK.fates("no UNLOCK", copied("LOCK 2; SHOW 0"), 0, 0, 0, 0);
        CHECK.due("no UNLOCK, as the 24th", copied("SHOW 0;".repeat(21) + "LOCK 2").fate(0, 23), 0);
        EscapeMill shorter = copied("LOCK 2; UNLOCK 2");
        Programs.write(shorter, 0, "NEW 2; COPY 3 2; LOCK 2");
        CHECK.fates("an UNLOCK that was cleared away", shorter, 0, 0, 0, NONE);
        CHECK.fates("no LOCK", copied("SHOW 0; UNLOCK 2"), 0, 0, 0, 0);
        CHECK.fates("of two Rs", copied("LOCK 2; UNLOCK 3"), 0, 0, 0, 0);
        CHECK.fates("of two Rs, the other way", copied("LOCK 3; UNLOCK 2"), 0, 0, 0, 0);
    }

    private static void pairOfAPlainNew() {
        CHECK.sentence("when Rx is no parameter's and is defined by one instruction alone, a NEW .. not taken apart");
        for (int many = 0; many <= 2; many++) {
            int due = many == 0 ? 2 : 0;
            CHECK.fates("R0 with " + many, Programs.mill("(" + many + ") NEW 0; COPY 3 0; LOCK 0; UNLOCK 0"), 0, 0, due, due);
            int second = many < 2 ? 2 : 0;
            CHECK.fates("R1 with " + many, Programs.mill("(" + many + ") NEW 1; COPY 3 1; LOCK 1; UNLOCK 1"), 0, 0, second, second);
        }
        for (String other : new String[] {"COPY 2 1", "NULL 2", "GETR 2 1 0", "FETCH 2 0", "CALL 2 1 1 #1"}) {
            CHECK.fates(other + ", too", copied("LOCK 2; UNLOCK 2;" + other), 0, 0, 0, 0, 0);
            CHECK.fates(other + " alone", Programs.mill(other + "; LOCK 2; UNLOCK 2"), 0, 0, 0);
        }
        CHECK.fates("two NEWs", copied("LOCK 2; UNLOCK 2; NEW 2"), 0, 0, 0, 0, 0);
        CHECK.fates("taken apart, it is 1", Programs.mill("NEW 2; LOCK 2; UNLOCK 2"), 1, 1, 1);
    }

    private static void pairOfEscapeZero() {
        CHECK.sentence("a NEW whose site has the escape 0");
        CHECK.fates("0", copied("LOCK 2; UNLOCK 2"), 0, 0, 2, 2);
        CHECK.fates("1, given", copied("LOCK 2; UNLOCK 2; RETURN 3"), 0, 0, 0, 0, 0);
        CHECK.fates("1, from an ARG", Programs.mill("(1) NEW 2; PUTR 0 2 0; LOCK 2; UNLOCK 2"), 0, 0, 0, 0);
        CHECK.fates("2", copied("LOCK 2; UNLOCK 2; STORE 3 0"), 0, 0, 0, 0, 0);
        EscapeMill call = Programs.mill("NEW 2; LOCK 2; UNLOCK 2; CALL 3 2 #1", "(1) LOCK 0; SHOW 0; UNLOCK 0");
        CHECK.fates("0 behind a CALL", call, 0, 2, 2, 0);
        Programs.add(call, 1, "STORE 0 0");
        CHECK.fates("2 from now on", call, 0, 0, 0, 0);
    }

    private static void pairIsDominated() {
        CHECK.sentence("which dominates i");
        CHECK.fates("a way round the NEW", Programs.mill("ZERO 0 #2; NEW 2; COPY 3 2; LOCK 2; UNLOCK 2"), 0, 0, 0, 0, 0);
        CHECK.fates("the LOCK before the NEW", Programs.mill("LOCK 2; UNLOCK 2; NEW 2; LOCK 2; UNLOCK 2; ZERO 0 #0"), 0, 0, 0, 2, 2, 0);
        CHECK.fates("no way to the LOCK", Programs.mill("LOCK 2; RETURN 1; LOCK 2; UNLOCK 2; NEW 2"), 0, 0, 2, 2, 0);
    }

    private static void betweenThem() {
        CHECK.sentence("when between i and j are none of NEW, LOCK, UNLOCK, JUMP, ZERO, RETURN, CALL");
        for (int op = 0; op <= 18; op++) {
            boolean none = op == Ops.NEW || op == Ops.LOCK || op == Ops.UNLOCK || op == Ops.JUMP || op == Ops.ZERO
                    || op == Ops.RETURN || op == Ops.CALL;
            for (int at = 0; at < 3; at++) {
                EscapeMill mill = copied("LOCK 2;" + "CONST 0 #1;".repeat(at));
                mill.put(0, op, 1, 1, 1, 0);
                Programs.add(mill, 0, "CONST 0 #1;".repeat(2 - at) + "UNLOCK 2");
                CHECK.due("op " + op + " between: LOCK", mill.fate(0, 2), none ? 0 : 2);
                CHECK.due("op " + op + " between: UNLOCK", mill.fate(0, 6), none ? 0 : 2);
            }
            EscapeMill outside = copied("");
            outside.put(0, op, 1, 1, 1, 0);
            Programs.add(outside, 0, "LOCK 2; UNLOCK 2");
            outside.put(0, op, 1, 1, 1, 0);
            // Behind a JUMP and a RETURN is no way, so that all is dominated.
            CHECK.due("op " + op + " outside: LOCK", outside.fate(0, 3), 2);
            CHECK.due("op " + op + " outside: UNLOCK", outside.fate(0, 4), 2);
        }
        CHECK.fates("two LOCKs", copied("LOCK 2; LOCK 2; UNLOCK 2; UNLOCK 2"), 0, 0, 0, 2, 2, 0);
        CHECK.fates("a LOCK of another R", copied("LOCK 2; LOCK 3; UNLOCK 2"), 0, 0, 0, 0, 0);
        CHECK.fates("an UNLOCK of another R", copied("LOCK 3; LOCK 2; UNLOCK 3; UNLOCK 2"), 0, 0, 0, 0, 0, 0);
        CHECK.fates("one pair behind the other", copied("LOCK 2; UNLOCK 2; LOCK 2; UNLOCK 2"), 0, 0, 2, 2, 2, 2);
    }

    private static void jumpsFromIPlusOneToJ() {
        CHECK.sentence("and when no JUMP or ZERO of the method has an n from i + 1 to j");
        for (String op : new String[] {"ZERO 0", "JUMP"}) {
            for (int n : new int[] {MIN, -1, 0, 1, 2, 3, 4, 5, 6, 7, 24, MAX}) {
                // The LOCK is at 2, the UNLOCK at 5.
                int due = n >= 3 && n <= 5 ? 0 : 2;
                EscapeMill mill = copied("LOCK 2; SHOW 0; SHOW 0; UNLOCK 2; " + op + " #" + n);
                CHECK.fates(op + " to " + n, mill, 0, 0, due, 0, 0, due, 0);
                EscapeMill never = copied("LOCK 2; SHOW 0; SHOW 0; UNLOCK 2; RETURN 1; " + op + " #" + n);
                CHECK.fates(op + " to " + n + " that is never done", never, 0, 0, due, 0, 0, due, 0, 0);
                int near = n == 3 ? 0 : 2;
                CHECK.fates(op + " to " + n + " of a near pair", copied("LOCK 2; UNLOCK 2; " + op + " #" + n), 0, 0, near, near, 0);
            }
        }
        // From instruction 0 round the NEW, to the LOCK at 3, the UNLOCK at 4 and behind it.
        String round = "NEW 2; COPY 3 2; LOCK 2; UNLOCK 2";
        CHECK.fates("ZERO at 0 to the UNLOCK", Programs.mill("ZERO 0 #4;" + round), 0, 0, 0, 0, 0);
        CHECK.runs("ZERO at 0 to the UNLOCK", Programs.mill("ZERO 0 #4;" + round), 1, 2);
        CHECK.fates("ZERO at 0 behind it", Programs.mill("ZERO 0 #5;" + round), 0, 0, 0, 2, 2);
        CHECK.runs("ZERO at 0 behind it", Programs.mill("ZERO 0 #5;" + round), 0, 1);
        EscapeMill others = copied("LOCK 2; SHOW 0; UNLOCK 2");
        for (int op = 0; op <= 18; op++) {
            if (op != Ops.JUMP && op != Ops.ZERO) {
                others.put(0, op, 1, 1, 1, 3);
            }
        }
        CHECK.fates("an n of another op", others, 0, 0, 2, 0, 2);
        EscapeMill elsewhere = Programs.mill("NEW 2; COPY 3 2; LOCK 2; UNLOCK 2", "JUMP #3");
        CHECK.fates("a JUMP of another method", elsewhere, 0, 0, 2, 2);
    }

    private static void theTwoDoNothing() {
        CHECK.sentence("As milled, the two do nothing");
        EscapeMill mill = copied("LOCK 2; GETI 0 2 0; UNLOCK 2; SHOW 0; UNLOCK 3");
        CHECK.runs("the count is as it was", mill, 2, 7, 0);
        CHECK.due("locks as milled", mill.latest(4), 0);
        mill.run(false);
        CHECK.due("locks as written", mill.latest(4), 2);
        EscapeMill failing = copied("LOCK 2; GETI 0 1 0; UNLOCK 2");
        CHECK.fates("a pair", failing, 0, 0, 2, 0, 2);
        CHECK.runs("a failure between them", failing, 1, 4);
        CHECK.due("no lock was done", failing.latest(4), 0);
    }

    private static void fateStays() {
        CHECK.sentence("0: it stays");
        for (int op = 0; op <= 18; op++) {
            EscapeMill mill = Programs.mill("NEW 1; STORE 1 0");
            mill.put(0, op, 1, 1, 1, 0);
            CHECK.due("op " + op, mill.fate(0, 2), 0);
        }
    }

    private static void fateOfNoInstruction() {
        CHECK.sentence("fate: NONE when there is no such instruction");
        EscapeMill mill = new EscapeMill();
        for (int size = 0; size <= 24; size++) {
            CHECK.due("the last of " + size, mill.fate(1, size - 1), size == 0 ? NONE : 0);
            CHECK.due("behind the last of " + size, mill.fate(1, size), NONE);
            Programs.add(mill, 1, size < 24 ? "SHOW 0" : "");
        }
        for (int i : new int[] {MIN, -24, -1, 24, 25, 32, MAX}) {
            CHECK.due("fate(1, " + i + ")", mill.fate(1, i), NONE);
        }
        for (int m : new int[] {MIN, -2, -1, 0, 2, 3, 4, 5, 6, MAX}) {
            CHECK.due("fate(" + m + ", 0)", mill.fate(m, 0), NONE);
        }
        Programs.write(mill, 1, "NEW 2");
        CHECK.due("fate(1, 0)", mill.fate(1, 0), 1);
        CHECK.due("one that was cleared away", mill.fate(1, 1), NONE);
    }
}
