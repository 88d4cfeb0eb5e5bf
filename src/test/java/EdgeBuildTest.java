import java.util.function.Consumer;

/** The boundary cases of promises 1 to 4 and 12, sentence by sentence. */
public final class EdgeBuildTest {
    private static final Check CHECK = new Check("EdgeBuildTest");
    private static final Class<IllegalArgumentException> ARGUMENT = IllegalArgumentException.class;
    private static final Class<IllegalStateException> STATE = IllegalStateException.class;
    private static final int NONE = EscapeMill.NONE;
    private static final int MIN = Integer.MIN_VALUE;
    private static final int MAX = Integer.MAX_VALUE;
    private static final int[] NO_METHODS = {MIN, -2, -1, 5, 6, MAX};
    private static final int[] NO_VARIABLES = {MIN, -2, -1, 4, 5, MAX};

    public static void main(String[] args) {
        noInstructions();
        noParameters();
        nothingWasRun();
        objectsHaveNothingInCommon();
        soManyParameters();
        parametersOfNoMethod();
        parametersOutsideZeroToTwo();
        appends();
        putsAllThatIsInside();
        putToNoMethod();
        putOfNoOperation();
        putOfNoVariable();
        putOfNoField();
        callOfNoMethod();
        itHasTwentyFour();
        clearAnswersHowMany();
        clearTakesInstructionsAlone();
        clearOfNoMethod();
        lengths();
        CHECK.end();
    }

    private static void noInstructions() {
        CHECK.sentence("No instructions");
        EscapeMill mill = new EscapeMill();
        for (int m = 0; m < 5; m++) {
            CHECK.due("length(" + m + ")", mill.length(m), 0);
            CHECK.due("clear(" + m + ")", mill.clear(m), 0);
            CHECK.due("fate(" + m + ", 0)", mill.fate(m, 0), NONE);
            CHECK.due("escape(" + m + ", 0)", mill.escape(m, 0), NONE);
            CHECK.due("the first put", mill.put(m, Ops.SHOW, 0, 0, 0, 0), 0);
        }
    }

    private static void noParameters() {
        CHECK.sentence("each method has no parameters");
        EscapeMill mill = new EscapeMill();
        for (int m = 0; m < 5; m++) {
            CHECK.due("summary(" + m + ", 0)", mill.summary(m, 0), NONE);
            CHECK.due("summary(" + m + ", 1)", mill.summary(m, 1), NONE);
            mill.put(m, Ops.SHOW, 0, 0, 0, 0);
            CHECK.due("may(" + m + ", 0)", mill.may(m, 0), 0);
            CHECK.due("may(" + m + ", 1)", mill.may(m, 1), 0);
        }
    }

    private static void nothingWasRun() {
        CHECK.sentence("Nothing was run");
        EscapeMill mill = new EscapeMill();
        for (int what = 0; what < 5; what++) {
            CHECK.due("latest(" + what + ")", mill.latest(what), 0);
        }
        CHECK.throwing("shown(0)", IndexOutOfBoundsException.class, () -> mill.shown(0));
    }

    private static void objectsHaveNothingInCommon() {
        CHECK.sentence("EscapeMill() (what other objects did is not in it)");
        EscapeMill before = new EscapeMill();
        EscapeMill other = rich();
        Answers.of(other);
        CHECK.holds("one made before", Answers.of(before).equals(Answers.of(new EscapeMill())));
        CHECK.holds("one made twice", Answers.of(rich()).equals(Answers.of(rich())));
        CHECK.due("the other keeps its instructions", other.length(2), 24);
    }

    /** A program with all kinds of answers, method 2 full and method 3 empty, that was run. */
    private static EscapeMill rich() {
        EscapeMill mill = Programs.mill("NEW 2; COPY 3 2; LOCK 2; CONST 0 #7; PUTI 2 0 1; UNLOCK 2; NEW 1; PUTR 1 2 0; LOCK 1;"
                + "CALL 0 3 1 #1; GETI 1 3 1; SHOW 1; CALL 0 3 #2; UNLOCK 0", "(2) NEW 2; PUTR 0 2 0; STORE 1 3; SHOW 3; RETURN 2",
                "(1) NEW 1; GETI 0 0 1; SHOW 0; ZERO 3 #22;" + "SHOW 1;".repeat(18) + "LOCK 1; RETURN 0", "(1)",
                "(1) FETCH 2 0; PUTR 0 2 0");
        mill.may(0, 0);
        mill.run(true);
        return mill;
    }

    private static void refused(String what, Class<? extends RuntimeException> due, Consumer<EscapeMill> call) {
        EscapeMill mill = rich();
        CHECK.throwing(what, due, () -> call.accept(mill));
        CHECK.holds(what + " leaves all as it was", Answers.of(mill).equals(Answers.of(rich())));
    }

    private static void soManyParameters() {
        CHECK.sentence("Method m gets so many parameters: true");
        int[] orders = {0, 1, 2, 1, 0, 2, 2, 0};
        for (int m = 0; m < 5; m++) {
            EscapeMill mill = Programs.only(m, "STORE 1 0; SHOW 0");
            for (int many : orders) {
                String told = many + " for method " + m + ": ";
                CHECK.holds(told + "parameters", mill.parameters(m, many));
                CHECK.due(told + "the first", mill.summary(m, 0), many >= 1 ? 0 : NONE);
                CHECK.due(told + "the second", mill.summary(m, 1), many == 2 ? 2 : NONE);
                CHECK.due(told + "R0", mill.may(m, 0), many >= 1 ? Ops.ARG0 : 0);
                CHECK.due(told + "R1", mill.may(m, 1), many == 2 ? Ops.ARG1 : 0);
                CHECK.due(told + "instructions stay", mill.length(m), 2);
                for (int k = 0; k < 5; k++) {
                    CHECK.due(told + "of method " + k, mill.summary(k, 0) != NONE ? 1 : 0, k == m && many > 0 ? 1 : 0);
                }
            }
        }
    }

    private static void parametersOfNoMethod() {
        CHECK.sentence("parameters: IllegalArgumentException: there is no such method");
        for (int m : NO_METHODS) {
            for (int many = 0; many <= 2; many++) {
                int asked = many;
                refused("parameters(" + m + ", " + many + ")", ARGUMENT, mill -> mill.parameters(m, asked));
            }
            refused("parameters(" + m + ", 3)", ARGUMENT, mill -> mill.parameters(m, 3));
        }
    }

    private static void parametersOutsideZeroToTwo() {
        CHECK.sentence("parameters: IllegalArgumentException: .. or many is not 0 .. 2");
        for (int m = 0; m < 5; m++) {
            int asked = m;
            for (int many : new int[] {MIN, -2, -1, 3, 4, MAX}) {
                refused("parameters(" + m + ", " + many + ")", ARGUMENT, mill -> mill.parameters(asked, many));
            }
        }
    }

    private static void appends() {
        CHECK.sentence("Appends an instruction to method m; answers its number");
        EscapeMill mill = new EscapeMill();
        for (int i = 0; i < 24; i++) {
            for (int m = 0; m < 5; m++) {
                CHECK.due("put to method " + m, mill.put(m, Ops.CONST, i % 4, 0, 0, i), i);
                CHECK.due("length of method " + m, mill.length(m), i + 1);
            }
        }
    }

    private static void putsAllThatIsInside() {
        CHECK.sentence("op 0 .. 18, x, y and z 0 .. 3, z 0 or 1 where it is a field, n an int, n 0 .. 4 where op is CALL");
        for (int op = 0; op <= 18; op++) {
            int last = op >= Ops.GETR && op <= Ops.PUTI ? 1 : 3;
            int[] ns = op == Ops.CALL ? new int[] {0, 1, 2, 3, 4} : new int[] {MIN, -1, 0, 4, 5, 24, MAX};
            for (int n : ns) {
                for (int z = 0; z <= last; z++) {
                    EscapeMill mill = new EscapeMill();
                    CHECK.due("op " + op + " with z " + z, mill.put(4, op, 0, 0, z, n), 0);
                    CHECK.due("op " + op + " with x 3", mill.put(4, op, 3, 0, z, n), 1);
                    CHECK.due("op " + op + " with y 3", mill.put(4, op, 0, 3, z, n), 2);
                }
            }
        }
    }

    private static void putToNoMethod() {
        CHECK.sentence("put: IllegalArgumentException: there is no such method");
        for (int m : NO_METHODS) {
            for (int op = 0; op <= 18; op++) {
                int asked = op;
                refused("put(" + m + ", " + op + ", ..)", ARGUMENT, mill -> mill.put(m, asked, 0, 0, 0, 0));
            }
        }
    }

    private static void putOfNoOperation() {
        CHECK.sentence("put: IllegalArgumentException: .. op is not 0 .. 18");
        for (int op : new int[] {MIN, -2, -1, 19, 20, MAX}) {
            for (int m = 0; m < 5; m++) {
                int asked = m;
                refused("put(" + m + ", " + op + ", ..)", ARGUMENT, mill -> mill.put(asked, op, 0, 0, 0, 0));
            }
        }
    }

    private static void putOfNoVariable() {
        CHECK.sentence("put: IllegalArgumentException: .. x, y or z is not 0 .. 3");
        for (int op = 0; op <= 18; op++) {
            int asked = op;
            for (int v : NO_VARIABLES) {
                refused("op " + op + " with x " + v, ARGUMENT, mill -> mill.put(3, asked, v, 0, 0, 0));
                refused("op " + op + " with y " + v, ARGUMENT, mill -> mill.put(3, asked, 0, v, 0, 0));
                refused("op " + op + " with z " + v, ARGUMENT, mill -> mill.put(3, asked, 0, 0, v, 0));
            }
        }
    }

    private static void putOfNoField() {
        CHECK.sentence("put: IllegalArgumentException: .. z is above 1 where it is a field");
        for (int op : new int[] {Ops.GETR, Ops.PUTR, Ops.GETI, Ops.PUTI}) {
            for (int z = 2; z <= 3; z++) {
                int field = z;
                refused("op " + op + " with z " + z, ARGUMENT, mill -> mill.put(0, op, 0, 0, field, 0));
            }
        }
    }

    private static void callOfNoMethod() {
        CHECK.sentence("put: IllegalArgumentException: .. or op is CALL and n not 0 .. 4");
        for (int n : NO_METHODS) {
            refused("CALL with n " + n, ARGUMENT, mill -> mill.put(0, Ops.CALL, 0, 0, 0, n));
        }
    }

    private static void itHasTwentyFour() {
        CHECK.sentence("put: IllegalStateException: it has 24");
        for (int op = 0; op <= 18; op++) {
            int asked = op;
            refused("op " + op + " as the 25th", STATE, mill -> mill.put(2, asked, 0, 0, 0, 0));
        }
        // What an instruction may be is said first; so it is looked at first.
        refused("a wrong op as the 25th", ARGUMENT, mill -> mill.put(2, 19, 0, 0, 0, 0));
        refused("a wrong x as the 25th", ARGUMENT, mill -> mill.put(2, 0, 4, 0, 0, 0));
        for (int m = 0; m < 5; m++) {
            int full = m;
            EscapeMill mill = Programs.only(m, "SHOW 0;".repeat(23));
            CHECK.due("the 24th of method " + m, mill.put(m, Ops.SHOW, 0, 0, 0, 0), 23);
            CHECK.throwing("the 25th of method " + m, STATE, () -> mill.put(full, Ops.SHOW, 0, 0, 0, 0));
            CHECK.throwing("and once more", STATE, () -> mill.put(full, Ops.SHOW, 0, 0, 0, 0));
            CHECK.due("another method has room", mill.put((m + 1) % 5, Ops.SHOW, 0, 0, 0, 0), 0);
            mill.clear(m);
            CHECK.due("it has room when cleared", mill.put(m, Ops.SHOW, 0, 0, 0, 0), 0);
        }
    }

    private static void clearAnswersHowMany() {
        CHECK.sentence("Takes all instructions of method m away; answers how many");
        for (int m = 0; m < 5; m++) {
            EscapeMill mill = new EscapeMill();
            for (int many : new int[] {0, 1, 2, 23, 24, 0}) {
                Programs.add(mill, m, "NEW 3;".repeat(many));
                CHECK.due("clear of " + many, mill.clear(m), many);
                CHECK.due("length behind it", mill.length(m), 0);
                CHECK.due("escape behind it", mill.escape(m, 0), NONE);
                CHECK.due("fate behind it", mill.fate(m, 0), NONE);
                CHECK.due("may behind it", mill.may(m, 3), 0);
                CHECK.due("a second clear", mill.clear(m), 0);
            }
        }
        EscapeMill mill = Programs.mill("NEW 2; CALL 3 2 #1", "(1) SHOW 0");
        CHECK.due("escape before", mill.escape(0, 0), 0);
        CHECK.due("clear", mill.clear(1), 1);
        CHECK.due("its callers see it", mill.escape(0, 0), 2);
        CHECK.due("and can not call it", mill.run(false), 3);
    }

    private static void clearTakesInstructionsAlone() {
        CHECK.sentence("Takes all instructions of method m away (and nothing else)");
        EscapeMill mill = rich();
        CHECK.due("clear(2)", mill.clear(2), 24);
        CHECK.due("its parameter stays", mill.summary(2, 0), 0);
        CHECK.due("it has no second one", mill.summary(2, 1), NONE);
        int[] lengths = {14, 5, 0, 0, 2};
        for (int m = 0; m < 5; m++) {
            CHECK.due("length(" + m + ")", mill.length(m), lengths[m]);
        }
        EscapeMill twin = rich();
        for (int what = 0; what < 5; what++) {
            CHECK.due("latest(" + what + ")", mill.latest(what), twin.latest(what));
        }
        CHECK.due("shown(0)", mill.shown(0), twin.shown(0));
        Programs.add(mill, 2, "NEW 1; GETI 0 0 1; SHOW 0; ZERO 3 #22;" + "SHOW 1;".repeat(18) + "LOCK 1; RETURN 0");
        CHECK.holds("the same once more", Answers.of(mill).equals(Answers.of(twin)));
    }

    private static void clearOfNoMethod() {
        CHECK.sentence("clear: IllegalArgumentException: there is no such method");
        for (int m : NO_METHODS) {
            refused("clear(" + m + ")", ARGUMENT, mill -> mill.clear(m));
        }
    }

    private static void lengths() {
        CHECK.sentence("How many instructions method m has; NONE when there is no such method");
        for (int m = 0; m < 5; m++) {
            EscapeMill mill = new EscapeMill();
            for (int many = 0; many <= 24; many++) {
                for (int k = 0; k < 5; k++) {
                    CHECK.due("length(" + k + ")", mill.length(k), k == m ? many : 0);
                }
                if (many < 24) {
                    mill.put(m, Ops.SHOW, 0, 0, 0, 0);
                }
            }
            for (int no : NO_METHODS) {
                CHECK.due("length(" + no + ")", mill.length(no), NONE);
            }
        }
    }
}
