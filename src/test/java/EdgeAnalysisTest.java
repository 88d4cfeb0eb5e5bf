/** The boundary cases of the analysis and of promises 8, 9 and 11, sentence by sentence. */
public final class EdgeAnalysisTest {
    private static final Check CHECK = new Check("EdgeAnalysisTest");
    private static final int NONE = EscapeMill.NONE;
    private static final int MIN = Integer.MIN_VALUE;
    private static final int MAX = Integer.MAX_VALUE;
    private static final int[] NO_METHODS = {MIN, -2, -1, 5, 6, MAX};

    public static void main(String[] args) {
        argumentsOfACall();
        sitesOfEachNew();
        fieldsOfASite();
        oneSetForBothFields();
        orderOfInstructions();
        argOfEachParameter();
        holdingThemselves();
        stateOfLowerMethods();
        stateOfEmptyMethods();
        stateNothing();
        whatOthersKnow();
        bothArguments();
        worldThatHangsOn();
        escapeTwoBeforeOne();
        summaryTwoBeforeOne();
        theOtherArg();
        noAnalysisWithoutInstructions();
        escapeOfNoNew();
        escapeOfNoInstruction();
        summaryOfNoParameter();
        bitsOfMay();
        mayWithoutInstructions();
        mayOfNoReference();
        answersFollowTheProgram();
        CHECK.end();
    }

    private static void argumentsOfACall() {
        CHECK.sentence("The ARGUMENTS of a CALL are Ry, if method n has a parameter, and Rz too, if it has two");
        int[][] escapes = {{0, 0}, {2, 0}, {2, 2}};
        for (int many = 0; many <= 2; many++) {
            EscapeMill mill = Programs.mill("NEW 1; NEW 2; CALL 3 1 2 #1", "(" + many + ")");
            CHECK.due("Ry with " + many, mill.escape(0, 0), escapes[many][0]);
            CHECK.due("Rz with " + many, mill.escape(0, 1), escapes[many][1]);
            CHECK.due("Rx with " + many, mill.may(0, 3), Ops.WORLD | (1 << many) - 1);
        }
    }

    private static void sitesOfEachNew() {
        CHECK.sentence("a SITE for each of its NEWs");
        EscapeMill full = Programs.only(4, "NEW 3;".repeat(24));
        CHECK.due("24 of one R", full.may(4, 3), (1 << 24) - 1);
        for (int i = 0; i < 24; i++) {
            CHECK.due("escape(4, " + i + ")", full.escape(4, i), 0);
        }
        EscapeMill last = Programs.only(0, "NULL 1;".repeat(22) + "RETURN 1; NEW 1");
        CHECK.due("the 24th alone", last.may(0, 1), 1 << 23);
        CHECK.due("its escape", last.escape(0, 23), 1);
        EscapeMill each = Programs.mill("NEW 0; NEW 1; NEW 2; NEW 3; RETURN 2");
        for (int r = 0; r < 4; r++) {
            CHECK.due("R" + r, each.may(0, r), 1 << r);
            CHECK.due("the escape of R" + r, each.escape(0, r), r == 2 ? 1 : 0);
        }
    }

    private static void fieldsOfASite() {
        CHECK.sentence("a site in F0, and in F1");
        for (int f = 0; f < 2; f++) {
            EscapeMill mill = Programs.mill("NEW 1; NEW 2; PUTR 1 2 " + f + "; GETR 3 1 0; GETR 0 1 1");
            CHECK.due("F0 when F" + f + " was put", mill.may(0, 3), f == 0 ? 2 : 0);
            CHECK.due("F1 when F" + f + " was put", mill.may(0, 0), f == 1 ? 2 : 0);
            Programs.add(mill, 0, "RETURN 1");
            CHECK.due("reached by F" + f, mill.escape(0, 1), 1);
        }
    }

    private static void oneSetForBothFields() {
        CHECK.sentence("the others in one set for both fields");
        for (int f = 0; f < 2; f++) {
            EscapeMill arg = Programs.mill("(2) NEW 2; PUTR 0 2 " + f + "; GETR 3 0 " + (1 - f));
            CHECK.due("the first ARG", arg.may(0, 3), Ops.ARG0 | 1);
            EscapeMill second = Programs.mill("(2) NEW 2; PUTR 1 2 " + f + "; GETR 3 1 " + (1 - f));
            CHECK.due("the second ARG", second.may(0, 3), Ops.ARG1 | 1);
            EscapeMill world = Programs.mill("FETCH 1 0; NEW 2; PUTR 1 2 " + f + "; GETR 3 1 " + (1 - f));
            CHECK.due("the WORLD", world.may(0, 3), Ops.WORLD | 2);
        }
        EscapeMill global = Programs.mill("NEW 2; STORE 2 3; FETCH 1 0");
        CHECK.due("one set for all globals", global.may(0, 1), Ops.WORLD | 1);
    }

    private static void orderOfInstructions() {
        CHECK.sentence("(the order of instructions does not matter)");
        String[] parts = {"NEW 2", "COPY 3 2", "NEW 1", "PUTR 3 1 0", "GETR 0 2 0", "STORE 0 2"};
        int[][] orders = {{0, 1, 2, 3, 4, 5}, {5, 4, 3, 2, 1, 0}, {3, 5, 1, 0, 4, 2}, {4, 2, 5, 0, 3, 1}};
        for (int[] order : orders) {
            StringBuilder text = new StringBuilder("RETURN 3;");
            int two = 0;
            int one = 0;
            for (int k = 0; k < order.length; k++) {
                text.append(parts[order[k]]).append(';');
                two = order[k] == 0 ? k + 1 : two;
                one = order[k] == 2 ? k + 1 : one;
            }
            EscapeMill mill = Programs.mill(text.toString());
            CHECK.due(text + " R0", mill.may(0, 0), 1 << one);
            CHECK.due(text + " R3", mill.may(0, 3), 1 << two);
            CHECK.due(text + " what is stored", mill.escape(0, one), 2);
            CHECK.due(text + " what is given", mill.escape(0, two), 1);
        }
        EscapeMill never = Programs.mill("RETURN 3; NEW 2; STORE 2 0; JUMP #-1; FETCH 1 0");
        CHECK.due("an instruction that is never done", never.may(0, 1), Ops.WORLD | 2);
        EscapeMill emptied = Programs.mill("NEW 2; NULL 2");
        CHECK.due("NULL takes nothing away", emptied.may(0, 2), 1);
    }

    private static void argOfEachParameter() {
        CHECK.sentence("R0 and R1 may be the ARGs of their parameters");
        int[][] due = {{0, 0}, {Ops.ARG0, 0}, {Ops.ARG0, Ops.ARG1}};
        for (int m = 0; m < 5; m++) {
            for (int many = 0; many <= 2; many++) {
                EscapeMill mill = Programs.only(m, "(" + many + ") SHOW 0");
                for (int r = 0; r < 4; r++) {
                    CHECK.due("R" + r + " of " + many, mill.may(m, r), r < 2 ? due[many][r] : 0);
                }
            }
        }
        EscapeMill also = Programs.mill("(1) NEW 0; NULL 0; COPY 1 0");
        CHECK.due("a parameter's R that is set anew", also.may(0, 0), Ops.ARG0 | 1);
        CHECK.due("its copy", also.may(0, 1), Ops.ARG0 | 1);
    }

    private static void holdingThemselves() {
        CHECK.sentence("an ARG holds itself, and the WORLD itself");
        for (int f = 0; f < 2; f++) {
            EscapeMill mill = Programs.mill("(2) GETR 2 0 " + f + "; GETR 3 1 " + f);
            CHECK.due("the first ARG", mill.may(0, 2), Ops.ARG0);
            CHECK.due("the second ARG", mill.may(0, 3), Ops.ARG1);
            EscapeMill world = Programs.mill("FETCH 2 0; GETR 3 2 " + f);
            CHECK.due("the WORLD", world.may(0, 3), Ops.WORLD);
        }
    }

    private static void stateOfLowerMethods() {
        CHECK.sentence("The STATE of an argument is 2 if n is not above this method's number");
        for (int m = 0; m < 5; m++) {
            for (int n = 0; n < 5; n++) {
                EscapeMill mill = new EscapeMill();
                Programs.write(mill, n, "(1) SHOW 0");
                Programs.write(mill, m, "(1) NEW 2; CALL 3 2 #" + n);
                CHECK.due("method " + n + " from " + m, mill.escape(m, 0), n > m ? 0 : 2);
                CHECK.due("what " + n + " gives to " + m, mill.may(m, 3), n > m ? Ops.WORLD : Ops.WORLD | 1);
                Programs.write(mill, m, "(1) CALL 3 0 #" + n);
                CHECK.due("a parameter of " + m + " for " + n, mill.summary(m, 0), n > m ? 0 : 2);
            }
        }
    }

    private static void stateOfEmptyMethods() {
        CHECK.sentence("or method n has no instructions, else the SUMMARY of that parameter of method n");
        for (int n = 1; n < 5; n++) {
            EscapeMill mill = Programs.mill("NEW 1; NEW 2; CALL 3 1 2 #" + n);
            mill.parameters(n, 2);
            CHECK.due("its summary is 0", mill.summary(n, 0), 0);
            CHECK.due("the first of an empty method", mill.escape(0, 0), 2);
            CHECK.due("the second of an empty method", mill.escape(0, 1), 2);
            Programs.write(mill, n, "(2) STORE 1 0");
            CHECK.due("its first summary is 0", mill.escape(0, 0), 0);
            CHECK.due("its second summary is 2", mill.escape(0, 1), 2);
            Programs.write(mill, n, "(2) STORE 0 0");
            CHECK.due("its first summary is 2", mill.escape(0, 0), 2);
            CHECK.due("its second summary is 0", mill.escape(0, 1), 0);
        }
    }

    private static void stateNothing() {
        CHECK.sentence("0: nothing more");
        EscapeMill mill = Programs.mill("NEW 1; NEW 2; CALL 3 1 2 #1; GETR 0 1 0", "(2) SAME 0 0 1");
        CHECK.due("what the first holds is itself", mill.may(0, 0), 1);
        CHECK.due("what is given is the WORLD", mill.may(0, 3), Ops.WORLD);
        EscapeMill hanging = Programs.mill("NEW 1; NEW 2; PUTR 1 2 1; CALL 3 1 #1; GETR 0 2 0", "(1) GETI 0 0 0");
        CHECK.due("what hangs on it holds all of that", hanging.may(0, 0), 3);
    }

    private static void whatOthersKnow() {
        CHECK.sentence("All that is reached from the WORLD holds (in both fields) the WORLD. Rx may be what the WORLD holds.");
        for (int f = 0; f < 2; f++) {
            EscapeMill mill = Programs.mill("NEW 1; NEW 2; PUTR 1 2 0; STORE 1 0; GETR 3 2 " + f, "SHOW 0");
            CHECK.due("F" + f + " without a CALL", mill.may(0, 3), 0);
            Programs.add(mill, 0, "CALL 0 #1");
            CHECK.due("F" + f + " with a CALL", mill.may(0, 3), Ops.WORLD);
            CHECK.due("Rx", mill.may(0, 0), Ops.WORLD | 1);
            EscapeMill own = Programs.mill("NEW 1; NEW 2; PUTR 1 2 0; STORE 2 0; GETR 3 1 1; CALL 0 #1", "SHOW 0");
            CHECK.due("what is not reached from it", own.may(0, 3), 0);
        }
    }

    private static void bothArguments() {
        CHECK.sentence("1: all that is reached from the arguments (of both, if there are two)");
        EscapeMill one = Programs.mill("NEW 1; NEW 2; CALL 3 1 2 #1", "(1) RETURN 0");
        CHECK.due("of one, Rz is no argument", one.may(0, 3), 1 | Ops.WORLD);
        for (int given = 0; given < 2; given++) {
            EscapeMill two = Programs.mill("NEW 1; NEW 2; CALL 3 1 2 #1; GETR 0 1 0; GETR 0 1 1", "(2) RETURN " + given);
            CHECK.due("of two, R" + given + " is given", two.may(0, 3), 3 | Ops.WORLD);
            CHECK.due("the first may hold the second", two.may(0, 0), 3);
        }
    }

    private static void worldThatHangsOn() {
        CHECK.sentence("or if in method n something is reached from the ARG of that parameter and from the WORLD as well");
        EscapeMill fetched = Programs.mill("NEW 1; CALL 3 1 #1", "(1) FETCH 2 0; PUTR 0 2 0");
        CHECK.due("the ARG holds the WORLD: summary", fetched.summary(1, 0), 0);
        CHECK.due("the ARG holds the WORLD: escape", fetched.escape(0, 0), 2);
        EscapeMill shared = Programs.mill("NEW 1; CALL 3 1 #1", "(1) NEW 2; STORE 2 0; PUTR 0 2 1");
        CHECK.due("both hold a site: summary", shared.summary(1, 0), 0);
        CHECK.due("both hold a site: escape", shared.escape(0, 0), 2);
        EscapeMill other = Programs.mill("NEW 1; NEW 2; CALL 3 1 2 #1", "(2) FETCH 2 0; PUTR 1 2 0");
        CHECK.due("of the other parameter", other.escape(0, 0), 0);
        CHECK.due("of this parameter", other.escape(0, 1), 2);
    }

    private static void escapeTwoBeforeOne() {
        CHECK.sentence("ESCAPE of a site: 2 if it is reached from the WORLD; else 1 if it is reached from an ARG, or from what is GIVEN; else 0");
        CHECK.due("nothing", Programs.mill("(2) NEW 2; PUTR 2 0 0; LOCK 2").escape(0, 0), 0);
        CHECK.due("given", Programs.mill("NEW 2; RETURN 2").escape(0, 0), 1);
        CHECK.due("from the first ARG", Programs.mill("(1) NEW 2; PUTR 0 2 0").escape(0, 0), 1);
        CHECK.due("from the second ARG", Programs.mill("(2) NEW 2; PUTR 1 2 0").escape(0, 0), 1);
        CHECK.due("R0 and R1 without parameters", Programs.mill("NEW 2; PUTR 0 2 0; PUTR 1 2 0").escape(0, 0), 0);
        CHECK.due("stored", Programs.mill("NEW 2; STORE 2 0").escape(0, 0), 2);
        CHECK.due("all of these", Programs.mill("(2) RETURN 2; NEW 2; PUTR 0 2 0; PUTR 1 2 1; STORE 2 0").escape(0, 1), 2);
        CHECK.due("from an ARG that is stored", Programs.mill("(1) NEW 2; PUTR 0 2 0; STORE 0 0").escape(0, 0), 2);
        CHECK.due("three fields on", Programs.mill("NEW 0; NEW 1; NEW 2; NEW 3; PUTR 0 1 0; PUTR 1 2 1; PUTR 2 3 0; STORE 0 0").escape(0, 3), 2);
        CHECK.due("not the other way", Programs.mill("NEW 0; NEW 1; PUTR 0 1 0; STORE 1 0").escape(0, 0), 0);
    }

    private static void summaryTwoBeforeOne() {
        CHECK.sentence("SUMMARY of a parameter: 2 if its ARG is reached from the WORLD; else 1 if something is reached from it and from what is GIVEN");
        CHECK.due("nothing", Programs.mill("(1) LOCK 0; PUTR 0 0 0").summary(0, 0), 0);
        CHECK.due("given", Programs.mill("(1) RETURN 0").summary(0, 0), 1);
        CHECK.due("a part of it is given", Programs.mill("(1) GETR 2 0 1; RETURN 2").summary(0, 0), 1);
        CHECK.due("what is given holds it", Programs.mill("(1) NEW 2; PUTR 2 0 1; RETURN 2").summary(0, 0), 1);
        CHECK.due("it holds what is given", Programs.mill("(1) NEW 2; PUTR 0 2 1; RETURN 2").summary(0, 0), 1);
        CHECK.due("both hold a third", Programs.mill("(1) NEW 2; NEW 3; PUTR 0 3 1; PUTR 2 3 0; RETURN 2").summary(0, 0), 1);
        CHECK.due("another is given", Programs.mill("(1) NEW 2; RETURN 2").summary(0, 0), 0);
        CHECK.due("stored and given", Programs.mill("(1) STORE 0 0; RETURN 0").summary(0, 0), 2);
        CHECK.due("held by what is stored", Programs.mill("(1) NEW 2; PUTR 2 0 0; STORE 2 0").summary(0, 0), 2);
        CHECK.due("it holds what is stored", Programs.mill("(1) NEW 2; PUTR 0 2 0; STORE 2 0").summary(0, 0), 0);
    }

    private static void theOtherArg() {
        CHECK.sentence("or from it and from the other ARG; else 0");
        for (String joined : new String[] {"PUTR 0 1 0", "PUTR 1 0 1", "NEW 2; PUTR 0 2 0; PUTR 1 2 0"}) {
            EscapeMill two = Programs.mill("(2)" + joined);
            CHECK.due(joined + ": first of two", two.summary(0, 0), 1);
            CHECK.due(joined + ": second of two", two.summary(0, 1), 1);
            CHECK.due(joined + ": one alone", Programs.mill("(1)" + joined).summary(0, 0), 0);
        }
        EscapeMill apart = Programs.mill("(2) STORE 1 0; PUTR 0 0 0");
        CHECK.due("the other is stored", apart.summary(0, 0), 0);
        CHECK.due("it is stored", apart.summary(0, 1), 2);
        EscapeMill mixed = Programs.mill("(2) STORE 0 0; PUTR 0 1 0");
        CHECK.due("the holder is stored", mixed.summary(0, 0), 2);
        CHECK.due("and what it holds", mixed.summary(0, 1), 2);
        EscapeMill held = Programs.mill("(2) STORE 1 0; PUTR 0 1 0");
        CHECK.due("it holds the other, which is stored", held.summary(0, 0), 1);
    }

    private static void noAnalysisWithoutInstructions() {
        CHECK.sentence("(A method without instructions has no analysis: its summaries are 0.)");
        for (int m = 0; m < 5; m++) {
            EscapeMill mill = Programs.only(m, "(2)");
            for (int k = 0; k < 2; k++) {
                CHECK.due("summary(" + m + ", 0)", mill.summary(m, 0), 0);
                CHECK.due("summary(" + m + ", 1)", mill.summary(m, 1), 0);
                for (int r = 0; r < 4; r++) {
                    CHECK.due("may(" + m + ", " + r + ")", mill.may(m, r), 0);
                }
                Programs.add(mill, m, "STORE 0 0; RETURN 1");
                CHECK.due("summary(" + m + ", 0) with instructions", mill.summary(m, 0), 2);
                CHECK.due("summary(" + m + ", 1) with instructions", mill.summary(m, 1), 1);
                mill.clear(m);
            }
        }
    }

    private static void escapeOfNoNew() {
        CHECK.sentence("escape: NONE when it is no NEW");
        for (int op = 1; op <= 18; op++) {
            EscapeMill mill = Programs.mill("NEW 1");
            mill.put(0, op, 1, 1, 1, 1);
            mill.put(0, Ops.NEW, 2, 0, 0, 0);
            CHECK.due("op " + op, mill.escape(0, 1), NONE);
            CHECK.due("the NEW behind it", mill.escape(0, 2), 0);
        }
    }

    private static void escapeOfNoInstruction() {
        CHECK.sentence("escape: NONE when .. there is none");
        EscapeMill mill = new EscapeMill();
        for (int size = 0; size <= 24; size++) {
            CHECK.due("the last of " + size, mill.escape(3, size - 1), size == 0 ? NONE : 0);
            CHECK.due("behind the last of " + size, mill.escape(3, size), NONE);
            Programs.add(mill, 3, size < 24 ? "NEW 2" : "");
        }
        for (int i : new int[] {MIN, -24, -1, 24, 25, 32, MAX}) {
            CHECK.due("escape(3, " + i + ")", mill.escape(3, i), NONE);
        }
        for (int m : NO_METHODS) {
            CHECK.due("escape(" + m + ", 0)", mill.escape(m, 0), NONE);
        }
        Programs.write(mill, 3, "NEW 2");
        CHECK.due("a NEW that was cleared away", mill.escape(3, 1), NONE);
    }

    private static void summaryOfNoParameter() {
        CHECK.sentence("summary: NONE when there is none");
        for (int many = 0; many <= 2; many++) {
            for (String code : new String[] {"", "STORE 0 0; STORE 1 0"}) {
                EscapeMill mill = Programs.only(2, "(" + many + ")" + code);
                for (int p = 0; p < 2; p++) {
                    int due = code.isEmpty() ? 0 : 2;
                    CHECK.due("summary(2, " + p + ") of " + many, mill.summary(2, p), p < many ? due : NONE);
                }
                for (int p : new int[] {MIN, -2, -1, 2, 3, 24, MAX}) {
                    CHECK.due("summary(2, " + p + ") of " + many, mill.summary(2, p), NONE);
                }
                for (int m : NO_METHODS) {
                    CHECK.due("summary(" + m + ", 0)", mill.summary(m, 0), NONE);
                }
            }
        }
    }

    private static void bitsOfMay() {
        CHECK.sentence("bit i: the site of instruction i; bits 24 and 25: the ARGs; bit 26: the WORLD");
        for (int i = 0; i < 24; i++) {
            EscapeMill mill = Programs.mill("SHOW 0;".repeat(i) + "NEW 3");
            CHECK.due("the site of instruction " + i, mill.may(0, 3), 1 << i);
        }
        CHECK.due("the first ARG", Programs.mill("(2) COPY 3 0").may(0, 3), 1 << 24);
        CHECK.due("the second ARG", Programs.mill("(2) COPY 3 1").may(0, 3), 1 << 25);
        CHECK.due("the WORLD", Programs.mill("(2) FETCH 3 1").may(0, 3), 1 << 26);
        EscapeMill all = Programs.mill("(2)" + "NEW 3;".repeat(21) + "COPY 3 0; COPY 3 1; FETCH 3 0");
        CHECK.due("all that can be", all.may(0, 3), (1 << 21) - 1 | 7 << 24);
    }

    private static void mayWithoutInstructions() {
        CHECK.sentence("may: 0 without instructions");
        for (int m = 0; m < 5; m++) {
            for (int many = 0; many <= 2; many++) {
                EscapeMill mill = Programs.only(m, "(" + many + ")");
                for (int r = 0; r < 4; r++) {
                    CHECK.due("may(" + m + ", " + r + ")", mill.may(m, r), 0);
                }
                Programs.add(mill, m, "NEW 3; FETCH 2 0");
                CHECK.due("with instructions", mill.may(m, 3), 1);
                mill.clear(m);
                CHECK.due("cleared, R3", mill.may(m, 3), 0);
                CHECK.due("cleared, R2", mill.may(m, 2), 0);
                CHECK.due("cleared, R0", mill.may(m, 0), 0);
            }
        }
    }

    private static void mayOfNoReference() {
        CHECK.sentence("may: NONE when there is no such method or reference");
        for (String code : new String[] {"", "FETCH 0 0; FETCH 3 0"}) {
            EscapeMill mill = Programs.mill(code, code, code, code, code);
            for (int m = 0; m < 5; m++) {
                for (int r : new int[] {MIN, -2, -1, 4, 5, MAX}) {
                    CHECK.due("may(" + m + ", " + r + ")", mill.may(m, r), NONE);
                }
                CHECK.due("may(" + m + ", 0)", mill.may(m, 0), code.isEmpty() ? 0 : Ops.WORLD);
                CHECK.due("may(" + m + ", 3)", mill.may(m, 3), code.isEmpty() ? 0 : Ops.WORLD);
            }
            for (int m : NO_METHODS) {
                for (int r : new int[] {-1, 0, 3, 4}) {
                    CHECK.due("may(" + m + ", " + r + ")", mill.may(m, r), NONE);
                }
            }
        }
    }

    private static void answersFollowTheProgram() {
        CHECK.sentence("THE ANALYSIS goes through the methods, 4 first");
        EscapeMill mill = Programs.mill("(1) NEW 2; CALL 3 2 #1", "(1) CALL 3 0 #2", "(1) CALL 3 0 #3", "(1) CALL 3 0 #4", "(1) SHOW 0");
        CHECK.due("nothing is done with it", mill.escape(0, 0), 0);
        Programs.add(mill, 4, "STORE 0 0");
        CHECK.due("stored four methods on", mill.escape(0, 0), 2);
        Programs.write(mill, 4, "(0) STORE 0 0");
        CHECK.due("no parameter any more", mill.escape(0, 0), 0);
        mill.parameters(4, 2);
        CHECK.due("two parameters", mill.escape(0, 0), 2);
        mill.clear(4);
        CHECK.due("no instructions", mill.escape(0, 0), 2);
        Programs.write(mill, 2, "(1) SHOW 0");
        CHECK.due("not called any more", mill.escape(0, 0), 0);
        EscapeMill again = Programs.mill("(1) NEW 2; PUTR 2 0 1; RETURN 2");
        CHECK.due("given", again.escape(0, 0), 1);
        CHECK.due("a parameter that is given", again.summary(0, 0), 1);
        Programs.write(again, 0, "(1) NEW 2; PUTR 2 0 1; SHOW 2");
        CHECK.due("not given any more", again.escape(0, 0), 0);
        CHECK.due("a parameter that is not given any more", again.summary(0, 0), 0);
    }
}
