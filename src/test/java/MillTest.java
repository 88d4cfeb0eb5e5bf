/** Promise 10, fate, and what a run as milled (promise 5) makes and locks. */
public final class MillTest {
    private static final Check CHECK = new Check("MillTest");
    private static final int NONE = EscapeMill.NONE;

    public static void main(String[] args) {
        fateAnswersNone();
        takenApart();
        numbersAreNoReferences();
        otherDefinitions();
        parametersStay();
        handedOn();
        arguments();
        domination();
        unreachable();
        pairs();
        betweenAPair();
        jumpsIntoAPair();
        noPairs();
        pairsNeedTheirNew();
        milledRuns();
        partsOfEachReference();
        partsOfTwoMethods();
        CHECK.end();
    }

    private static void fateAnswersNone() {
        EscapeMill mill = Ops.mill(Ops.i(Ops.SHOW, 0), Ops.i(Ops.SHOW, 0));
        CHECK.fates("plain ones stay", mill, 0, 0, NONE);
        for (int i : new int[] {-1, 2, 24, Integer.MIN_VALUE, Integer.MAX_VALUE}) {
            CHECK.due("fate of no instruction", mill.fate(0, i), NONE);
        }
        for (int m : new int[] {-1, 1, 5, Integer.MIN_VALUE, Integer.MAX_VALUE}) {
            CHECK.due("fate in no method, or an empty one", mill.fate(m, 0), NONE);
        }
    }

    private static void takenApart() {
        CHECK.fates("all that works on parts", Ops.mill(Ops.i(Ops.NEW, 2), Ops.i(Ops.GETR, 1, 2, 0), Ops.i(Ops.PUTR, 2, 1, 1),
                Ops.i(Ops.GETI, 0, 2, 0), Ops.i(Ops.PUTI, 2, 0, 0), Ops.i(Ops.LOCK, 2), Ops.i(Ops.UNLOCK, 2),
                Ops.i(Ops.SAME, 0, 2, 1), Ops.i(Ops.SAME, 0, 1, 2), Ops.i(Ops.SAME, 0, 2, 2), Ops.i(Ops.SAME, 0, 1, 1),
                Ops.i(Ops.SHOW, 2)),
                1, 1, 1, 1, 1, 1, 1, 1, 1, 1, 0, 0);
        CHECK.fates("an object that is not used", Ops.mill(Ops.i(Ops.NEW, 0)), 1);
        CHECK.fates("two of them", Ops.mill(Ops.i(Ops.NEW, 0), Ops.i(Ops.NEW, 3), Ops.i(Ops.SAME, 1, 0, 3), Ops.i(Ops.LOCK, 3)), 1, 1, 1, 1);
    }

    private static void numbersAreNoReferences() {
        CHECK.fates("2 as a number, an int, a global, a method", Ops.mill(Ops.i(Ops.NEW, 2), Ops.i(Ops.PUTI, 1, 2, 0),
                Ops.i(Ops.GETI, 2, 1, 0), Ops.number(2, 2), Ops.i(Ops.ADD, 2, 2, 2), Ops.i(Ops.SAME, 2, 1, 1),
                Ops.i(Ops.STORE, 1, 2), Ops.i(Ops.FETCH, 1, 2), Ops.zero(2, 2), Ops.i(Ops.SHOW, 2), Ops.call(1, 2, 2, 2),
                Ops.i(Ops.NULL, 1, 2, 2), Ops.i(Ops.RETURN, 1, 2, 2), new int[] {Ops.JUMP, 2, 2, 2, 2},
                Ops.i(Ops.LOCK, 1, 2, 2), Ops.i(Ops.NEW, 1, 2, 2), Ops.i(Ops.COPY, 1, 0, 2)),
                1, 0, 0, 0, 0, 0, 0, 0, 0, 0, 0, 0, 0, 0, 0, 0, 0);
    }

    private static void otherDefinitions() {
        int[][] others = {Ops.i(Ops.NEW, 2), Ops.i(Ops.COPY, 2, 3), Ops.i(Ops.NULL, 2), Ops.i(Ops.GETR, 2, 3, 0),
            Ops.i(Ops.FETCH, 2, 0), Ops.call(2, 1, 0, 0)};
        for (int[] other : others) {
            CHECK.fates("also defined by op " + other[0], Ops.mill(Ops.i(Ops.NEW, 2), Ops.i(Ops.LOCK, 2), Ops.i(Ops.UNLOCK, 2), other), 0, 0, 0, 0);
            CHECK.fates("defined first by op " + other[0], Ops.mill(other, Ops.i(Ops.NEW, 2), Ops.i(Ops.LOCK, 2), Ops.i(Ops.UNLOCK, 2)), 0, 0, 0, 0);
        }
    }

    private static void parametersStay() {
        EscapeMill mill = Ops.mill(Ops.i(Ops.NEW, 0), Ops.i(Ops.NEW, 1), Ops.i(Ops.LOCK, 0), Ops.i(Ops.LOCK, 1));
        CHECK.fates("no parameters", mill, 1, 1, 1, 1);
        mill.parameters(0, 1);
        CHECK.fates("one parameter", mill, 0, 1, 0, 1);
        mill.parameters(0, 2);
        CHECK.fates("two parameters", mill, 0, 0, 0, 0);
    }

    private static void handedOn() {
        int[][] ways = {Ops.i(Ops.COPY, 1, 2), Ops.i(Ops.PUTR, 1, 2, 0), Ops.i(Ops.PUTR, 2, 2, 0), Ops.i(Ops.STORE, 2, 0),
            Ops.i(Ops.RETURN, 2)};
        for (int[] way : ways) {
            CHECK.fates("handed on by op " + way[0], Ops.mill(Ops.i(Ops.NEW, 2), Ops.i(Ops.GETI, 0, 2, 0), way), 0, 0, 0);
        }
    }

    private static void arguments() {
        for (int many = 0; many <= 2; many++) {
            for (int empty = 0; empty < 2; empty++) {
                EscapeMill mill = Ops.mill(Ops.i(Ops.NEW, 2), Ops.i(Ops.NEW, 3), Ops.call(1, 1, 2, 3));
                mill.parameters(1, many);
                if (empty == 0) {
                    mill.put(1, Ops.SHOW, 0, 0, 0, 0);
                }
                CHECK.fates("arguments with " + many, mill, many >= 1 ? 0 : 1, many == 2 ? 0 : 1, 0);
            }
        }
    }

    private static void domination() {
        int[][] uses = {Ops.i(Ops.GETR, 1, 2, 0), Ops.i(Ops.GETI, 1, 2, 0), Ops.i(Ops.PUTR, 2, 1, 0), Ops.i(Ops.PUTI, 2, 1, 0),
            Ops.i(Ops.LOCK, 2), Ops.i(Ops.UNLOCK, 2), Ops.i(Ops.SAME, 0, 2, 1), Ops.i(Ops.SAME, 0, 1, 2)};
        for (int[] use : uses) {
            String op = "use of op " + use[0];
            CHECK.fates(op + " before", Ops.mill(use, Ops.i(Ops.NEW, 2)), 0, 0);
            CHECK.fates(op + " behind a way round", Ops.mill(Ops.zero(0, 2), Ops.i(Ops.NEW, 2), use), 0, 0, 0);
            CHECK.fates(op + " inside", Ops.mill(Ops.zero(0, 3), Ops.i(Ops.NEW, 2), use, Ops.i(Ops.SHOW, 0)), 0, 1, 1, 0);
            CHECK.fates(op + " behind a loop", Ops.mill(Ops.i(Ops.SHOW, 0), Ops.i(Ops.NEW, 2), use, Ops.zero(0, 0)), 0, 1, 1, 0);
            CHECK.fates(op + " reached by a JUMP back", Ops.mill(Ops.jump(3), use, Ops.i(Ops.RETURN, 3), Ops.i(Ops.NEW, 2), Ops.jump(1)), 0, 1, 0, 1, 0);
        }
    }

    private static void unreachable() {
        CHECK.fates("no way leads to the use", Ops.mill(Ops.zero(0, 3), Ops.i(Ops.NEW, 2), Ops.i(Ops.RETURN, 3), Ops.jump(5),
                Ops.i(Ops.LOCK, 2), Ops.i(Ops.SHOW, 0)), 0, 1, 0, 0, 1, 0);
        CHECK.fates("no way leads to both", Ops.mill(Ops.i(Ops.RETURN, 3), Ops.i(Ops.LOCK, 2), Ops.i(Ops.NEW, 2)), 0, 1, 1);
        CHECK.fates("no way leads to the NEW", Ops.mill(Ops.i(Ops.LOCK, 2), Ops.i(Ops.RETURN, 3), Ops.i(Ops.NEW, 2)), 0, 0, 0);
        CHECK.fates("a JUMP behind the last one leads nowhere", Ops.mill(Ops.jump(-1), Ops.i(Ops.LOCK, 2), Ops.i(Ops.NEW, 2)), 0, 1, 1);
        CHECK.fates("a ZERO goes on, too", Ops.mill(Ops.zero(0, 24), Ops.i(Ops.LOCK, 2), Ops.i(Ops.NEW, 2)), 0, 0, 0);
    }

    /** A NEW of R2 that is copied, so that it is not taken apart, and then these. */
    private static EscapeMill copied(int[]... code) {
        EscapeMill mill = Ops.mill(Ops.i(Ops.NEW, 2), Ops.i(Ops.COPY, 3, 2));
        for (int[] c : code) {
            mill.put(0, c[0], c[1], c[2], c[3], c[4]);
        }
        return mill;
    }

    private static void pairs() {
        CHECK.fates("a pair", copied(Ops.i(Ops.LOCK, 2), Ops.i(Ops.UNLOCK, 2)), 0, 0, 2, 2);
        CHECK.fates("two pairs", copied(Ops.i(Ops.LOCK, 2), Ops.i(Ops.UNLOCK, 2), Ops.i(Ops.LOCK, 2), Ops.i(Ops.UNLOCK, 2)), 0, 0, 2, 2, 2, 2);
        CHECK.fates("one within another", copied(Ops.i(Ops.LOCK, 2), Ops.i(Ops.LOCK, 2), Ops.i(Ops.UNLOCK, 2), Ops.i(Ops.UNLOCK, 2)), 0, 0, 0, 2, 2, 0);
        CHECK.fates("of a copy", copied(Ops.i(Ops.LOCK, 3), Ops.i(Ops.UNLOCK, 3)), 0, 0, 0, 0);
        CHECK.fates("of two references", copied(Ops.i(Ops.LOCK, 2), Ops.i(Ops.UNLOCK, 3)), 0, 0, 0, 0);
        CHECK.fates("the wrong way round", copied(Ops.i(Ops.UNLOCK, 2), Ops.i(Ops.LOCK, 2)), 0, 0, 0, 0);
        CHECK.fates("to the end", copied(Ops.i(Ops.LOCK, 2), Ops.i(Ops.SHOW, 2)), 0, 0, 0, 0);
    }

    private static void betweenAPair() {
        for (int op = 0; op <= 18; op++) {
            boolean parts = op == Ops.NEW || op == Ops.LOCK || op == Ops.UNLOCK || op == Ops.JUMP || op == Ops.ZERO
                    || op == Ops.RETURN || op == Ops.CALL;
            int due = parts ? 0 : 2;
            int[] between = {op, 1, 1, 1, 0};
            CHECK.fates("op " + op + " between", copied(Ops.i(Ops.LOCK, 2), between, Ops.i(Ops.SHOW, 0), Ops.i(Ops.UNLOCK, 2)),
                    0, 0, due, op == Ops.NEW ? 1 : 0, 0, due);
        }
    }

    private static void jumpsIntoAPair() {
        for (int n = 0; n <= 8; n++) {
            int due = n >= 3 && n <= 5 ? 0 : 2;
            int[][] body = {Ops.i(Ops.LOCK, 2), Ops.i(Ops.SHOW, 0), Ops.i(Ops.SHOW, 0), Ops.i(Ops.UNLOCK, 2)};
            EscapeMill zero = copied(body);
            zero.put(0, Ops.ZERO, 0, 0, 0, n);
            CHECK.fates("ZERO to " + n, zero, 0, 0, due, 0, 0, due, 0);
            EscapeMill jump = copied(body);
            jump.put(0, Ops.RETURN, 1, 0, 0, 0);
            jump.put(0, Ops.JUMP, 0, 0, 0, n);
            CHECK.fates("JUMP to " + n + " that is never done", jump, 0, 0, due, 0, 0, due, 0, 0);
        }
        EscapeMill other = copied(Ops.i(Ops.LOCK, 2), Ops.i(Ops.SHOW, 0), Ops.i(Ops.UNLOCK, 2), new int[] {Ops.CONST, 0, 0, 0, 3});
        CHECK.fates("an n that is no jump's", other, 0, 0, 2, 0, 2);
    }

    private static void noPairs() {
        EscapeMill given = copied(Ops.i(Ops.LOCK, 2), Ops.i(Ops.UNLOCK, 2), Ops.i(Ops.RETURN, 3));
        CHECK.fates("escape 1", given, 0, 0, 0, 0, 0);
        EscapeMill stored = copied(Ops.i(Ops.LOCK, 2), Ops.i(Ops.UNLOCK, 2), Ops.i(Ops.STORE, 3, 0));
        CHECK.fates("escape 2", stored, 0, 0, 0, 0, 0);
        EscapeMill again = copied(Ops.i(Ops.LOCK, 2), Ops.i(Ops.UNLOCK, 2), Ops.i(Ops.NULL, 2));
        CHECK.fates("defined twice", again, 0, 0, 0, 0, 0);
        EscapeMill parameter = Ops.mill(Ops.i(Ops.NEW, 0), Ops.i(Ops.COPY, 3, 0), Ops.i(Ops.LOCK, 0), Ops.i(Ops.UNLOCK, 0));
        CHECK.fates("no parameter's", parameter, 0, 0, 2, 2);
        parameter.parameters(0, 1);
        CHECK.fates("a parameter's", parameter, 0, 0, 0, 0);
        CHECK.fates("no NEW", Ops.mill(Ops.i(Ops.FETCH, 2, 0), Ops.i(Ops.LOCK, 2), Ops.i(Ops.UNLOCK, 2)), 0, 0, 0);
    }

    private static void pairsNeedTheirNew() {
        CHECK.fates("a way round the NEW", Ops.mill(Ops.zero(0, 3), Ops.i(Ops.NEW, 2), Ops.i(Ops.COPY, 3, 2), Ops.i(Ops.LOCK, 2),
                Ops.i(Ops.UNLOCK, 2)), 0, 0, 0, 0, 0);
        CHECK.fates("one with and one without", Ops.mill(Ops.zero(0, 4), Ops.i(Ops.NEW, 2), Ops.i(Ops.LOCK, 2), Ops.i(Ops.UNLOCK, 2),
                Ops.i(Ops.LOCK, 2), Ops.i(Ops.UNLOCK, 2)), 0, 0, 2, 2, 0, 0);
        CHECK.fates("no way leads there", Ops.mill(Ops.i(Ops.LOCK, 2), Ops.i(Ops.RETURN, 1), Ops.i(Ops.LOCK, 2), Ops.i(Ops.UNLOCK, 2),
                Ops.i(Ops.NEW, 2)), 0, 0, 2, 2, 0);
    }

    private static void milledRuns() {
        EscapeMill mill = copied(Ops.i(Ops.LOCK, 2), Ops.number(0, 4), Ops.i(Ops.PUTI, 3, 0, 1), Ops.i(Ops.UNLOCK, 2),
                Ops.i(Ops.LOCK, 3), Ops.i(Ops.NEW, 1), Ops.i(Ops.LOCK, 1), Ops.i(Ops.PUTR, 1, 2, 1), Ops.i(Ops.GETR, 0, 1, 1),
                Ops.i(Ops.GETI, 3, 0, 1), Ops.i(Ops.SHOW, 3), Ops.i(Ops.SAME, 2, 0, 2), Ops.i(Ops.SHOW, 2),
                Ops.i(Ops.SAME, 2, 1, 2), Ops.i(Ops.SHOW, 2), Ops.i(Ops.SAME, 2, 1, 1), Ops.i(Ops.SHOW, 2), Ops.i(Ops.UNLOCK, 3),
                Ops.i(Ops.UNLOCK, 2));
        int[][] due = {{2, 4, 21, 2, 5}, {2, 4, 21, 1, 2}};
        int[] shown = {4, 1, 0, 1};
        for (int k = 0; k < 2; k++) {
            CHECK.due("run", mill.run(k == 1), 2);
            for (int what = 0; what < 5; what++) {
                CHECK.due("latest(" + what + ") of run " + k, mill.latest(what), due[k][what]);
            }
            for (int s = 0; s < 4; s++) {
                CHECK.due("shown(" + s + ") of run " + k, mill.shown(s), shown[s]);
            }
        }
    }

    private static void partsOfEachReference() {
        for (int r = 0; r < 4; r++) {
            EscapeMill mill = Ops.mill(Ops.i(Ops.NEW, r), Ops.i(Ops.LOCK, r), Ops.i(Ops.UNLOCK, r), Ops.i(Ops.LOCK, r));
            mill.run(false);
            CHECK.due("objects of R" + r, mill.latest(3), 1);
            CHECK.due("locks of R" + r, mill.latest(4), 3);
            mill.run(true);
            CHECK.due("objects of R" + r + " as milled", mill.latest(3), 0);
            CHECK.due("locks of R" + r + " as milled", mill.latest(4), 0);
        }
    }

    private static void partsOfTwoMethods() {
        EscapeMill deep = Ops.mill(Ops.i(Ops.NEW, 2), Ops.number(1, 1), Ops.i(Ops.PUTI, 2, 1, 0), Ops.i(Ops.LOCK, 2),
                Ops.call(3, 1, 0, 0), Ops.i(Ops.GETI, 0, 2, 0), Ops.i(Ops.SHOW, 0), Ops.i(Ops.UNLOCK, 2));
        Ops.write(deep, 1, 0, Ops.i(Ops.NEW, 2), Ops.i(Ops.GETI, 0, 2, 0), Ops.i(Ops.SHOW, 0), Ops.number(1, 2),
                Ops.i(Ops.PUTI, 2, 1, 0), Ops.i(Ops.GETI, 0, 2, 0), Ops.i(Ops.SHOW, 0));
        CHECK.due("parts of two methods", deep.run(true), 0);
        int[] each = {0, 2, 1};
        for (int s = 0; s < 3; s++) {
            CHECK.due("parts of two methods, shown(" + s + ")", deep.shown(s), each[s]);
        }
        CHECK.due("no object", deep.latest(3), 0);
        CHECK.due("no lock", deep.latest(4), 0);
    }
}
