/** Promises 8, 9 and 11: escape, summary, may. */
public final class AnalysisTest {
    private static final Check CHECK = new Check("AnalysisTest");
    private static final int NONE = EscapeMill.NONE;
    private static final int[] NO_METHODS = {-1, 5, Integer.MIN_VALUE, Integer.MAX_VALUE};

    public static void main(String[] args) {
        escapeOfOneMethod();
        escapeThroughFields();
        escapeAnswersNone();
        mayOfEachInstruction();
        mayAnswersNone();
        fieldsOfSitesAndOthers();
        orderDoesNotMatter();
        summaries();
        summaryAnswersNone();
        callWithoutArguments();
        callOfUnknownMethods();
        callWithStateNothing();
        callThatHangsTheWorldOn();
        callWithStatePassed();
        callWithTwoStates();
        callWithStateKnown();
        summariesGoUp();
        changesAreSeen();
        CHECK.end();
    }

    private static EscapeMill one(int many, int[]... code) {
        EscapeMill mill = new EscapeMill();
        Ops.write(mill, 2, many, code);
        return mill;
    }

    private static void escapeOfOneMethod() {
        CHECK.due("unseen", one(0, Ops.i(Ops.NEW, 3)).escape(2, 0), 0);
        CHECK.due("stored", one(0, Ops.i(Ops.NEW, 3), Ops.i(Ops.STORE, 3, 0)).escape(2, 0), 2);
        CHECK.due("given", one(0, Ops.i(Ops.NEW, 3), Ops.i(Ops.RETURN, 3)).escape(2, 0), 1);
        CHECK.due("given and stored", one(0, Ops.i(Ops.NEW, 3), Ops.i(Ops.STORE, 3, 0), Ops.i(Ops.RETURN, 3)).escape(2, 0), 2);
        CHECK.due("put into a parameter", one(1, Ops.i(Ops.NEW, 3), Ops.i(Ops.PUTR, 0, 3, 1)).escape(2, 0), 1);
        CHECK.due("put into the second parameter", one(2, Ops.i(Ops.NEW, 3), Ops.i(Ops.PUTR, 1, 3, 1)).escape(2, 0), 1);
        EscapeMill both = one(2, Ops.i(Ops.NEW, 2), Ops.i(Ops.NEW, 3), Ops.i(Ops.PUTR, 0, 2, 1), Ops.i(Ops.RETURN, 3));
        CHECK.due("put into the first of two", both.escape(2, 0), 1);
        CHECK.due("given beside that", both.escape(2, 1), 1);
        EscapeMill either = one(0, Ops.i(Ops.NEW, 2), Ops.i(Ops.NEW, 3), Ops.i(Ops.RETURN, 2), Ops.i(Ops.RETURN, 3));
        CHECK.due("given by the first RETURN", either.escape(2, 0), 1);
        CHECK.due("given by the second RETURN", either.escape(2, 1), 1);
        CHECK.due("R0 is no parameter's", one(0, Ops.i(Ops.NEW, 3), Ops.i(Ops.PUTR, 0, 3, 1)).escape(2, 0), 0);
        CHECK.due("holds a parameter", one(1, Ops.i(Ops.NEW, 3), Ops.i(Ops.PUTR, 3, 0, 1)).escape(2, 0), 0);
        CHECK.due("put into what was fetched", one(0, Ops.i(Ops.FETCH, 1, 0), Ops.i(Ops.NEW, 3),
                Ops.i(Ops.PUTR, 1, 3, 0)).escape(2, 1), 2);
        EscapeMill two = one(0, Ops.i(Ops.NEW, 3), Ops.i(Ops.NEW, 2), Ops.i(Ops.RETURN, 2));
        CHECK.due("another one is given", two.escape(2, 0), 0);
        CHECK.due("this one is given", two.escape(2, 1), 1);
    }

    private static void escapeThroughFields() {
        EscapeMill mill = one(0, Ops.i(Ops.NEW, 1), Ops.i(Ops.NEW, 2), Ops.i(Ops.NEW, 3), Ops.i(Ops.PUTR, 1, 2, 0),
                Ops.i(Ops.PUTR, 2, 3, 1), Ops.i(Ops.RETURN, 1));
        for (int i = 0; i < 3; i++) {
            CHECK.due("all that hangs on what is given", mill.escape(2, i), 1);
        }
        mill.put(2, Ops.STORE, 2, 0, 0, 0);
        CHECK.due("only what hangs on it is stored", mill.escape(2, 0), 1);
        CHECK.due("stored", mill.escape(2, 1), 2);
        CHECK.due("hangs on what is stored", mill.escape(2, 2), 2);
    }

    private static void escapeAnswersNone() {
        EscapeMill mill = new EscapeMill();
        for (int op = 0; op <= 18; op++) {
            mill.put(2, op, 1, 1, 1, 1);
            CHECK.due("escape of op " + op, mill.escape(2, op), op == Ops.NEW ? 0 : NONE);
        }
        for (int i : new int[] {-1, 19, 24, Integer.MIN_VALUE, Integer.MAX_VALUE}) {
            CHECK.due("escape of no instruction", mill.escape(2, i), NONE);
        }
        for (int m : NO_METHODS) {
            CHECK.due("escape of no method", mill.escape(m, 0), NONE);
        }
    }

    private static void mayOfEachInstruction() {
        EscapeMill mill = one(2, Ops.i(Ops.NEW, 2), Ops.i(Ops.NEW, 2), Ops.i(Ops.COPY, 3, 2));
        CHECK.due("the first ARG", mill.may(2, 0), Ops.ARG0);
        CHECK.due("the second ARG", mill.may(2, 1), Ops.ARG1);
        CHECK.due("two sites", mill.may(2, 2), 3);
        CHECK.due("COPY", mill.may(2, 3), 3);
        CHECK.due("NULL", one(0, Ops.i(Ops.NULL, 1)).may(2, 1), 0);
        CHECK.due("FETCH", one(0, Ops.i(Ops.FETCH, 1, 0)).may(2, 1), Ops.WORLD);
        CHECK.due("GETR of an ARG", one(1, Ops.i(Ops.GETR, 2, 0, 1)).may(2, 2), Ops.ARG0);
        CHECK.due("GETR of the WORLD", one(0, Ops.i(Ops.FETCH, 1, 0), Ops.i(Ops.GETR, 2, 1, 1)).may(2, 2), Ops.WORLD);
        CHECK.due("GETR of a site", one(0, Ops.i(Ops.NEW, 1), Ops.i(Ops.GETR, 2, 1, 1)).may(2, 2), 0);
        EscapeMill stored = one(1, Ops.i(Ops.NEW, 2), Ops.i(Ops.STORE, 2, 0), Ops.i(Ops.STORE, 0, 1), Ops.i(Ops.FETCH, 3, 3));
        CHECK.due("FETCH of what was stored", stored.may(2, 3), 1 | Ops.ARG0 | Ops.WORLD);
        CHECK.due("nothing else", stored.may(2, 2), 1);
        int[][] full = new int[24][];
        for (int i = 0; i < 24; i++) {
            full[i] = Ops.i(Ops.NEW, 3);
        }
        CHECK.due("24 sites", one(0, full).may(2, 3), (1 << 24) - 1);
    }

    private static void mayAnswersNone() {
        EscapeMill mill = new EscapeMill();
        mill.parameters(1, 2);
        CHECK.due("no instructions", mill.may(1, 0), 0);
        CHECK.due("no instructions", mill.may(1, 1), 0);
        for (int r : new int[] {-1, 4, Integer.MIN_VALUE, Integer.MAX_VALUE}) {
            CHECK.due("may of no reference", mill.may(1, r), NONE);
        }
        for (int m : NO_METHODS) {
            CHECK.due("may of no method", mill.may(m, 0), NONE);
        }
    }

    private static void fieldsOfSitesAndOthers() {
        EscapeMill site = one(0, Ops.i(Ops.NEW, 1), Ops.i(Ops.NEW, 2), Ops.i(Ops.PUTR, 1, 2, 0), Ops.i(Ops.GETR, 3, 1, 1),
                Ops.i(Ops.GETR, 0, 1, 0));
        CHECK.due("the other field of a site", site.may(2, 3), 0);
        CHECK.due("the same field of a site", site.may(2, 0), 2);
        EscapeMill arg = one(1, Ops.i(Ops.NEW, 2), Ops.i(Ops.PUTR, 0, 2, 0), Ops.i(Ops.GETR, 3, 0, 1));
        CHECK.due("an ARG has one set", arg.may(2, 3), 1 | Ops.ARG0);
        EscapeMill world = one(0, Ops.i(Ops.FETCH, 0, 0), Ops.i(Ops.NEW, 2), Ops.i(Ops.PUTR, 0, 2, 0), Ops.i(Ops.GETR, 3, 0, 1));
        CHECK.due("the WORLD has one set", world.may(2, 3), 2 | Ops.WORLD);
    }

    private static void orderDoesNotMatter() {
        EscapeMill mill = one(0, Ops.i(Ops.RETURN, 0), Ops.i(Ops.GETR, 0, 1, 1), Ops.i(Ops.PUTR, 1, 2, 1),
                Ops.i(Ops.COPY, 1, 3), Ops.i(Ops.NEW, 2), Ops.i(Ops.NEW, 3));
        CHECK.due("found backwards", mill.may(2, 0), 1 << 4);
        CHECK.due("given backwards", mill.escape(2, 4), 1);
        CHECK.due("its holder is not given", mill.escape(2, 5), 0);
    }

    private static void summaries() {
        CHECK.due("only looked at", one(1, Ops.i(Ops.GETI, 0, 0, 0), Ops.i(Ops.LOCK, 0)).summary(2, 0), 0);
        CHECK.due("stored", one(1, Ops.i(Ops.STORE, 0, 0)).summary(2, 0), 2);
        CHECK.due("a part of it is stored", one(1, Ops.i(Ops.GETR, 2, 0, 0), Ops.i(Ops.STORE, 2, 0)).summary(2, 0), 2);
        CHECK.due("given", one(1, Ops.i(Ops.RETURN, 0)).summary(2, 0), 1);
        CHECK.due("stored and given", one(1, Ops.i(Ops.RETURN, 0), Ops.i(Ops.STORE, 0, 0)).summary(2, 0), 2);
        CHECK.due("hangs on what is given", one(1, Ops.i(Ops.NEW, 3), Ops.i(Ops.PUTR, 3, 0, 0), Ops.i(Ops.RETURN, 3)).summary(2, 0), 1);
        CHECK.due("what is given hangs on it", one(1, Ops.i(Ops.NEW, 3), Ops.i(Ops.PUTR, 0, 3, 0), Ops.i(Ops.RETURN, 3)).summary(2, 0), 1);
        CHECK.due("another one is given", one(1, Ops.i(Ops.NEW, 3), Ops.i(Ops.RETURN, 3)).summary(2, 0), 0);
        EscapeMill joined = one(2, Ops.i(Ops.PUTR, 0, 1, 0));
        CHECK.due("holds the other", joined.summary(2, 0), 1);
        CHECK.due("is held by the other", joined.summary(2, 1), 1);
        EscapeMill shared = one(2, Ops.i(Ops.NEW, 2), Ops.i(Ops.PUTR, 0, 2, 0), Ops.i(Ops.PUTR, 1, 2, 1));
        CHECK.due("both hold one thing", shared.summary(2, 0), 1);
        CHECK.due("both hold one thing", shared.summary(2, 1), 1);
        EscapeMill apart = one(2, Ops.i(Ops.STORE, 0, 0), Ops.i(Ops.GETI, 0, 1, 0));
        CHECK.due("the first is stored", apart.summary(2, 0), 2);
        CHECK.due("the second is not", apart.summary(2, 1), 0);
        EscapeMill world = one(2, Ops.i(Ops.FETCH, 2, 0), Ops.i(Ops.PUTR, 0, 2, 0));
        CHECK.due("holds the WORLD", world.summary(2, 0), 0);
        world.put(2, Ops.PUTR, 1, 2, 0, 0);
        CHECK.due("both hold the WORLD", world.summary(2, 0), 1);
        EscapeMill fetched = one(1, Ops.i(Ops.FETCH, 2, 0), Ops.i(Ops.PUTR, 0, 2, 0), Ops.i(Ops.RETURN, 2));
        CHECK.due("the WORLD is held and given", fetched.summary(2, 0), 1);
    }

    private static void summaryAnswersNone() {
        EscapeMill mill = new EscapeMill();
        for (int many = 0; many <= 2; many++) {
            Ops.write(mill, 1, many, Ops.i(Ops.STORE, 0, 0), Ops.i(Ops.STORE, 1, 0));
            CHECK.due("first of " + many, mill.summary(1, 0), many >= 1 ? 2 : NONE);
            CHECK.due("second of " + many, mill.summary(1, 1), many == 2 ? 2 : NONE);
            mill.clear(1);
            CHECK.due("first of " + many + " without instructions", mill.summary(1, 0), many >= 1 ? 0 : NONE);
        }
        for (int p : new int[] {-1, 2, Integer.MIN_VALUE, Integer.MAX_VALUE}) {
            CHECK.due("summary of no parameter", mill.summary(1, p), NONE);
        }
        for (int m : NO_METHODS) {
            CHECK.due("summary of no method", mill.summary(m, 0), NONE);
        }
    }

    private static void callWithoutArguments() {
        EscapeMill mill = one(0, Ops.i(Ops.NEW, 1), Ops.i(Ops.STORE, 1, 0), Ops.i(Ops.GETR, 2, 1, 0), Ops.i(Ops.NEW, 0));
        CHECK.due("without a CALL", mill.may(2, 2), 0);
        mill.put(2, Ops.CALL, 3, 0, 0, 4);
        CHECK.due("what others know holds the WORLD", mill.may(2, 2), Ops.WORLD);
        CHECK.due("a CALL gives what the WORLD holds", mill.may(2, 3), 1 | Ops.WORLD);
        CHECK.due("Ry is no argument", mill.escape(2, 3), 0);
    }

    private static void callOfUnknownMethods() {
        for (int n = 0; n < 5; n++) {
            EscapeMill mill = one(1, Ops.i(Ops.NEW, 2), Ops.call(3, n, 2, 2));
            mill.parameters(n, 1);
            boolean known = n > 2;
            if (n != 2) {
                mill.put(n, Ops.SHOW, 0, 0, 0, 0);
            }
            CHECK.due("argument of method " + n, mill.escape(2, 0), known ? 0 : 2);
            CHECK.due("what method " + n + " gives", mill.may(2, 3), known ? Ops.WORLD : 1 | Ops.WORLD);
            if (n != 2) {
                mill.clear(n);
                CHECK.due("argument of empty method " + n, mill.escape(2, 0), 2);
            }
        }
        EscapeMill self = one(1, Ops.call(3, 2, 0, 0));
        CHECK.due("a parameter that goes to its own method", self.summary(2, 0), 2);
    }

    private static EscapeMill caller(int many, int[][] callee, int[]... code) {
        EscapeMill mill = one(0, code);
        Ops.write(mill, 3, many, callee);
        return mill;
    }

    private static void callWithStateNothing() {
        int[][] callee = {Ops.i(Ops.GETI, 0, 0, 0)};
        EscapeMill mill = caller(2, callee, Ops.i(Ops.NEW, 1), Ops.i(Ops.NEW, 2), Ops.call(3, 3, 1, 2),
                Ops.i(Ops.GETR, 0, 1, 1));
        CHECK.due("state of the first", mill.summary(3, 0), 0);
        CHECK.due("state of the second", mill.summary(3, 1), 0);
        CHECK.due("an argument may hold itself, not the other", mill.may(2, 0), 1);
        CHECK.due("given is what the WORLD holds", mill.may(2, 3), Ops.WORLD);
        CHECK.due("the first escapes not", mill.escape(2, 0), 0);
        CHECK.due("the second escapes not", mill.escape(2, 1), 0);
        EscapeMill tree = caller(1, callee, Ops.i(Ops.NEW, 1), Ops.i(Ops.NEW, 2), Ops.i(Ops.PUTR, 1, 2, 0),
                Ops.call(3, 3, 1, 0), Ops.i(Ops.GETR, 0, 2, 1));
        CHECK.due("what hangs on it may hold all of that", tree.may(2, 0), 3);
    }

    private static void callThatHangsTheWorldOn() {
        int[][] callee = {Ops.i(Ops.FETCH, 3, 0), Ops.i(Ops.PUTR, 0, 3, 0)};
        EscapeMill mill = caller(2, callee, Ops.i(Ops.NEW, 1), Ops.i(Ops.NEW, 2), Ops.call(3, 3, 1, 2), Ops.i(Ops.GETR, 0, 1, 1));
        CHECK.due("state of the first", mill.summary(3, 0), 0);
        CHECK.due("it holds the WORLD, which is then reached from it", mill.may(2, 0), 1 | Ops.WORLD);
        CHECK.due("and so holds it", mill.escape(2, 0), 2);
        CHECK.due("the other argument is left alone", mill.escape(2, 1), 0);
    }

    private static void callWithStatePassed() {
        int[][] giver = {Ops.i(Ops.RETURN, 0)};
        EscapeMill mill = caller(1, giver, Ops.i(Ops.NEW, 1), Ops.i(Ops.NEW, 2), Ops.i(Ops.PUTR, 1, 2, 0), Ops.call(3, 3, 1, 0));
        CHECK.due("all that hangs on the argument is given", mill.may(2, 3), 3 | Ops.WORLD);
        CHECK.due("it escapes not", mill.escape(2, 0), 0);
        int[][] joiner = {Ops.i(Ops.PUTR, 0, 1, 0)};
        EscapeMill joined = caller(2, joiner, Ops.i(Ops.NEW, 1), Ops.i(Ops.NEW, 2), Ops.call(3, 3, 1, 2), Ops.i(Ops.GETR, 0, 2, 1));
        CHECK.due("each may hold the other", joined.may(2, 0), 3);
        CHECK.due("given is all of that", joined.may(2, 3), 3 | Ops.WORLD);
    }

    private static void callWithTwoStates() {
        int[][] callee = {Ops.i(Ops.RETURN, 1)};
        EscapeMill mill = caller(2, callee, Ops.i(Ops.NEW, 1), Ops.i(Ops.NEW, 2), Ops.call(3, 3, 1, 2), Ops.i(Ops.GETR, 0, 1, 0));
        CHECK.due("state of the first", mill.summary(3, 0), 0);
        CHECK.due("state of the second", mill.summary(3, 1), 1);
        CHECK.due("state 1 is for what hangs on both", mill.may(2, 3), 3 | Ops.WORLD);
        CHECK.due("and the first may hold the second", mill.may(2, 0), 3);
    }

    private static void callWithStateKnown() {
        int[][] callee = {Ops.i(Ops.STORE, 1, 0)};
        EscapeMill mill = caller(2, callee, Ops.i(Ops.NEW, 1), Ops.i(Ops.NEW, 2), Ops.call(3, 3, 1, 2), Ops.i(Ops.GETR, 0, 2, 0));
        CHECK.due("the first stays", mill.escape(2, 0), 0);
        CHECK.due("the second is known", mill.escape(2, 1), 2);
        CHECK.due("the WORLD may hang on it", mill.may(2, 0), 2 | Ops.WORLD);
        CHECK.due("and it may be given", mill.may(2, 3), 2 | Ops.WORLD);
    }

    private static void summariesGoUp() {
        EscapeMill mill = new EscapeMill();
        Ops.write(mill, 4, 1, Ops.i(Ops.STORE, 0, 0));
        for (int m = 0; m < 4; m++) {
            Ops.write(mill, m, 1, Ops.call(3, m + 1, 0, 0));
        }
        CHECK.due("stored four methods on", mill.summary(0, 0), 2);
        Ops.write(mill, 4, 1, Ops.i(Ops.RETURN, 0));
        CHECK.due("given, but not further", mill.summary(3, 0), 0);
        for (int m = 0; m < 4; m++) {
            mill.put(m, Ops.RETURN, 3, 0, 0, 0);
        }
        CHECK.due("given four methods on", mill.summary(0, 0), 1);
    }

    private static void changesAreSeen() {
        EscapeMill mill = caller(1, new int[][] {Ops.i(Ops.GETI, 0, 0, 0)}, Ops.i(Ops.NEW, 1), Ops.call(3, 3, 1, 0));
        CHECK.due("at first", mill.escape(2, 0), 0);
        mill.put(3, Ops.STORE, 0, 0, 0, 0);
        CHECK.due("behind a put elsewhere", mill.escape(2, 0), 2);
        mill.parameters(3, 0);
        CHECK.due("behind parameters elsewhere", mill.escape(2, 0), 0);
        mill.parameters(3, 1);
        CHECK.due("behind parameters again", mill.escape(2, 0), 2);
        mill.clear(3);
        mill.put(3, Ops.SHOW, 0, 0, 0, 0);
        CHECK.due("behind clear and put", mill.escape(2, 0), 0);
        mill.put(2, Ops.RETURN, 1, 0, 0, 0);
        CHECK.due("behind a put", mill.escape(2, 0), 1);
    }
}
