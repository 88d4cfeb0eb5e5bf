/** Promises 5 to 7: run, shown, latest. Each program is run as written and as milled. */
public final class RunTest {
    private static final Check CHECK = new Check("RunTest");

    public static void main(String[] args) {
        numbers();
        references();
        globals();
        jumps();
        calls();
        variablesOfTheirOwn();
        nullFailures();
        unlockFailures();
        callFailures();
        limit();
        limitAndLeaving();
        limitComesFirst();
        shown();
        latest();
        runsAreFresh();
        CHECK.end();
    }

    private static void numbers() {
        CHECK.runs("ints are 0 at first", Ops.mill(Ops.i(Ops.SHOW, 0), Ops.i(Ops.SHOW, 3)), 0, 2, 0, 0);
        CHECK.runs("CONST and ADD", Ops.mill(Ops.number(1, 40), Ops.number(2, 2), Ops.i(Ops.ADD, 3, 1, 2),
                Ops.i(Ops.SHOW, 3), Ops.i(Ops.SHOW, 1)), 0, 5, 42, 40);
        CHECK.runs("ADD wraps", Ops.mill(Ops.number(0, Integer.MAX_VALUE), Ops.number(1, 1),
                Ops.i(Ops.ADD, 0, 0, 1), Ops.i(Ops.SHOW, 0)), 0, 4, Integer.MIN_VALUE);
        CHECK.runs("G0 and G1", Ops.mill(Ops.i(Ops.NEW, 1), Ops.number(2, 7), Ops.number(3, 8),
                Ops.i(Ops.PUTI, 1, 2, 0), Ops.i(Ops.PUTI, 1, 3, 1), Ops.i(Ops.GETI, 0, 1, 0),
                Ops.i(Ops.SHOW, 0), Ops.i(Ops.GETI, 0, 1, 1), Ops.i(Ops.SHOW, 0)), 0, 9, 7, 8);
    }

    private static void references() {
        CHECK.runs("two objects differ, a copy does not, NULL is NULL", Ops.mill(Ops.i(Ops.NEW, 0), Ops.i(Ops.NEW, 1),
                Ops.i(Ops.SAME, 0, 0, 1), Ops.i(Ops.SHOW, 0), Ops.i(Ops.COPY, 2, 0), Ops.i(Ops.SAME, 0, 0, 2),
                Ops.i(Ops.SHOW, 0), Ops.i(Ops.NULL, 0), Ops.i(Ops.SAME, 0, 0, 3), Ops.i(Ops.SHOW, 0)),
                0, 10, 0, 1, 1);
        CHECK.runs("F0 and F1", Ops.mill(Ops.i(Ops.NEW, 0), Ops.i(Ops.NEW, 1), Ops.i(Ops.PUTR, 0, 1, 1),
                Ops.i(Ops.GETR, 2, 0, 1), Ops.i(Ops.SAME, 0, 1, 2), Ops.i(Ops.SHOW, 0),
                Ops.i(Ops.GETR, 2, 0, 0), Ops.i(Ops.SAME, 0, 2, 3), Ops.i(Ops.SHOW, 0)), 0, 9, 1, 1);
    }

    private static void globals() {
        CHECK.runs("STORE and FETCH", Ops.mill(Ops.i(Ops.NEW, 0), Ops.i(Ops.STORE, 0, 3), Ops.i(Ops.FETCH, 1, 3),
                Ops.i(Ops.SAME, 0, 0, 1), Ops.i(Ops.SHOW, 0), Ops.i(Ops.FETCH, 1, 2), Ops.i(Ops.SAME, 0, 0, 1),
                Ops.i(Ops.SHOW, 0)), 0, 8, 1, 0);
    }

    private static void jumps() {
        CHECK.runs("ZERO goes on there if 0", Ops.mill(Ops.zero(0, 2), Ops.i(Ops.SHOW, 0), Ops.number(0, 1),
                Ops.zero(0, 5), Ops.i(Ops.SHOW, 0)), 0, 4, 1);
        for (int n : new int[] {2, 3, 24, -1, Integer.MIN_VALUE, Integer.MAX_VALUE}) {
            CHECK.runs("JUMP behind the last", Ops.mill(Ops.jump(n), Ops.i(Ops.SHOW, 0)), 0, 1);
            CHECK.runs("ZERO behind the last", Ops.mill(Ops.zero(1, n), Ops.i(Ops.SHOW, 0)), 0, 1);
        }
        CHECK.runs("JUMP back", Ops.mill(Ops.jump(2), Ops.i(Ops.RETURN, 0), Ops.i(Ops.SHOW, 0), Ops.jump(1)), 0, 4, 0);
    }

    private static void calls() {
        EscapeMill mill = Ops.mill(Ops.i(Ops.NEW, 2), Ops.i(Ops.NEW, 3), Ops.call(1, 1, 2, 3),
                Ops.i(Ops.SAME, 0, 1, 3), Ops.i(Ops.SHOW, 0), Ops.call(1, 2, 2, 3),
                Ops.i(Ops.SAME, 0, 1, 0), Ops.i(Ops.SHOW, 0), Ops.call(2, 3, 2, 3), Ops.i(Ops.SAME, 0, 2, 0),
                Ops.i(Ops.SHOW, 0));
        Ops.write(mill, 1, 2, Ops.i(Ops.RETURN, 1), Ops.i(Ops.SHOW, 0));
        Ops.write(mill, 2, 1, Ops.i(Ops.RETURN, 1));
        Ops.write(mill, 3, 2, Ops.i(Ops.SHOW, 0));
        CHECK.runs("what a method gives", mill, 0, 14, 1, 1, 0, 1);
        Ops.write(mill, 1, 1, Ops.i(Ops.RETURN, 1));
        CHECK.runs("no second parameter", mill, 0, 14, 0, 1, 0, 1);
        Ops.write(mill, 3, 0, Ops.i(Ops.RETURN, 0));
        CHECK.runs("no parameter", mill, 0, 14, 0, 1, 1);
        EscapeMill self = Ops.mill(Ops.i(Ops.SAME, 0, 0, 2), Ops.i(Ops.SHOW, 0));
        self.parameters(0, 2);
        CHECK.runs("parameters of method 0 are NULL", self, 0, 2, 1);
    }

    private static void variablesOfTheirOwn() {
        EscapeMill mill = Ops.mill(Ops.i(Ops.NEW, 3), Ops.number(3, 5), Ops.i(Ops.PUTI, 3, 3, 0), Ops.call(0, 1, 0, 0),
                Ops.call(0, 1, 0, 0), Ops.i(Ops.GETI, 0, 3, 0), Ops.i(Ops.SHOW, 0), Ops.i(Ops.SHOW, 3));
        Ops.write(mill, 1, 0, Ops.i(Ops.SHOW, 3), Ops.i(Ops.NEW, 3), Ops.i(Ops.GETI, 3, 3, 0), Ops.i(Ops.SHOW, 3),
                Ops.number(3, 6), Ops.i(Ops.PUTI, 3, 3, 0));
        CHECK.runs("each method has its own", mill, 0, 20, 0, 0, 0, 0, 5, 5);
    }

    private static void nullFailures() {
        int[][] all = {Ops.i(Ops.GETR, 0, 1, 0), Ops.i(Ops.PUTR, 1, 2, 0), Ops.i(Ops.GETI, 0, 1, 0),
            Ops.i(Ops.PUTI, 1, 2, 0), Ops.i(Ops.LOCK, 1), Ops.i(Ops.UNLOCK, 1)};
        for (int[] bad : all) {
            EscapeMill mill = Ops.mill(Ops.i(Ops.NEW, 0), Ops.i(Ops.NEW, 2), Ops.i(Ops.SHOW, 0), bad, Ops.i(Ops.SHOW, 0));
            CHECK.runs("op " + bad[0] + " of NULL", mill, 1, 4, 0);
            CHECK.due("no lock was done", mill.latest(4), 0);
        }
    }

    private static void unlockFailures() {
        int[][] code = {Ops.i(Ops.NEW, 1), Ops.i(Ops.COPY, 2, 1), Ops.i(Ops.LOCK, 1), Ops.i(Ops.LOCK, 2),
            Ops.i(Ops.UNLOCK, 1), Ops.i(Ops.UNLOCK, 2), Ops.i(Ops.UNLOCK, 1), Ops.i(Ops.SHOW, 0)};
        EscapeMill mill = Ops.mill(code);
        CHECK.runs("UNLOCK of 0", mill, 2, 7);
        CHECK.due("the failed one is no lock done", mill.latest(4), 4);
        EscapeMill apart = Ops.mill(Ops.i(Ops.NEW, 1), Ops.i(Ops.UNLOCK, 1));
        CHECK.runs("UNLOCK of parts", apart, 2, 2);
        CHECK.runs("UNLOCK of another object", Ops.mill(Ops.i(Ops.NEW, 1), Ops.i(Ops.NEW, 2), Ops.i(Ops.LOCK, 1),
                Ops.i(Ops.UNLOCK, 2)), 2, 4);
    }

    private static void callFailures() {
        CHECK.runs("CALL of a method without instructions", Ops.mill(Ops.call(0, 1, 0, 0), Ops.i(Ops.SHOW, 0)), 3, 1);
        CHECK.runs("8 methods run", Ops.mill(Ops.i(Ops.SHOW, 0), Ops.call(0, 0, 0, 0)), 3, 16, 0, 0, 0, 0, 0, 0, 0, 0);
        EscapeMill seven = Ops.mill(Ops.i(Ops.NEW, 0), Ops.call(1, 1, 0, 0), Ops.i(Ops.SHOW, 1));
        // Each method 1 gives its parameter's F0 on, which was set one deeper for each call.
        Ops.write(seven, 1, 1, Ops.i(Ops.GETI, 0, 0, 0), Ops.number(1, 1), Ops.i(Ops.ADD, 0, 0, 1),
                Ops.i(Ops.PUTI, 0, 0, 0), Ops.number(2, -7), Ops.i(Ops.ADD, 2, 0, 2), Ops.zero(2, 8),
                Ops.call(3, 1, 0, 0), Ops.i(Ops.SHOW, 0));
        CHECK.runs("8 methods may run", seven, 0, 3 + 7 * 9 - 1, 7, 6, 5, 4, 3, 2, 1, 0);
    }

    private static void limit() {
        EscapeMill loop = Ops.mill(Ops.jump(0));
        CHECK.runs("no end", loop, 4, 400);
        EscapeMill two = Ops.mill(Ops.i(Ops.NEW, 0), Ops.jump(0));
        CHECK.runs("no end with objects", two, 4, 400);
        CHECK.due("parts are no objects", two.latest(3), 0);
        two.run(false);
        CHECK.due("objects made", two.latest(3), 200);
    }

    /** A loop that does exactly 400 instructions: 3 and 132 times 3, and a last one. */
    private static int[][] fourHundred(int... last) {
        return new int[][] {Ops.number(0, 132), Ops.number(1, -1), Ops.i(Ops.NEW, 2), Ops.i(Ops.ADD, 0, 0, 1),
            Ops.zero(0, 6), Ops.jump(3), last};
    }

    private static void limitAndLeaving() {
        // 3, then 131 times 3, then ADD and ZERO: 398, so that the last one is the 399th.
        EscapeMill mill = Ops.mill(fourHundred(Ops.i(Ops.SHOW, 1)));
        CHECK.runs("399 are done", mill, 0, 399, -1);
        mill.put(0, Ops.SHOW, 0, 0, 0, 0);
        CHECK.runs("400 are done and there is no other", mill, 0, 400, -1, 0);
        mill.put(0, Ops.SHOW, 0, 0, 0, 0);
        CHECK.runs("400 are done and there is another", mill, 4, 400, -1, 0);
        EscapeMill caller = Ops.mill(Ops.call(0, 1, 0, 0));
        Ops.write(caller, 1, 0, fourHundred(Ops.i(Ops.SHOW, 1)));
        CHECK.runs("leaving is no instruction", caller, 0, 400, -1);
        caller.put(0, Ops.SHOW, 0, 0, 0, 0);
        CHECK.runs("another one in the caller", caller, 4, 400, -1);
    }

    private static void limitComesFirst() {
        for (int[] bad : new int[][] {Ops.i(Ops.LOCK, 3), Ops.call(0, 4, 0, 0), Ops.i(Ops.UNLOCK, 2)}) {
            EscapeMill mill = Ops.mill(fourHundred(Ops.i(Ops.SHOW, 1)));
            mill.put(0, Ops.SHOW, 0, 0, 0, 0);
            mill.put(0, bad[0], bad[1], bad[2], bad[3], bad[4]);
            CHECK.runs("the limit before failure of op " + bad[0], mill, 4, 400, -1, 0);
        }
    }

    private static void shown() {
        EscapeMill mill = Ops.mill(Ops.number(1, 1), Ops.i(Ops.ADD, 0, 0, 1), Ops.i(Ops.SHOW, 0), Ops.jump(1));
        mill.run(false);
        CHECK.due("numbers shown", mill.latest(1), 133);
        for (int i = 0; i < 32; i++) {
            CHECK.due("shown(" + i + ")", mill.shown(i), i + 1);
        }
        for (int i : new int[] {-1, 32, 33, 132, Integer.MIN_VALUE, Integer.MAX_VALUE}) {
            CHECK.throwing("shown(" + i + ")", IndexOutOfBoundsException.class, () -> mill.shown(i));
        }
        Ops.write(mill, 0, 0, Ops.i(Ops.SHOW, 0), Ops.i(Ops.SHOW, 0));
        CHECK.due("the latest run is told", mill.shown(31), 32);
        mill.run(true);
        CHECK.due("shown by the next run", mill.shown(1), 0);
        CHECK.throwing("nothing of the run before", IndexOutOfBoundsException.class, () -> mill.shown(2));
    }

    private static void latest() {
        EscapeMill mill = Ops.mill(Ops.i(Ops.NEW, 1), Ops.i(Ops.STORE, 1, 0), Ops.i(Ops.NEW, 2), Ops.i(Ops.LOCK, 1),
                Ops.i(Ops.LOCK, 2), Ops.i(Ops.UNLOCK, 1), Ops.i(Ops.SHOW, 0), Ops.i(Ops.GETI, 0, 3, 0));
        mill.run(false);
        int[] written = {1, 1, 8, 2, 3};
        int[] milled = {1, 1, 8, 1, 2};
        for (int what = 0; what < 5; what++) {
            CHECK.due("latest(" + what + ")", mill.latest(what), written[what]);
        }
        mill.run(true);
        for (int what = 0; what < 5; what++) {
            CHECK.due("latest(" + what + ") as milled", mill.latest(what), milled[what]);
        }
        for (int what : new int[] {-1, 5, Integer.MIN_VALUE, Integer.MAX_VALUE}) {
            CHECK.due("latest(" + what + ")", mill.latest(what), EscapeMill.NONE);
        }
    }

    private static void runsAreFresh() {
        EscapeMill mill = Ops.mill(Ops.i(Ops.FETCH, 0, 0), Ops.i(Ops.SAME, 0, 0, 3), Ops.i(Ops.SHOW, 0),
                Ops.i(Ops.NEW, 1), Ops.i(Ops.STORE, 1, 0), Ops.i(Ops.GETI, 1, 1, 0), Ops.i(Ops.SHOW, 1),
                Ops.i(Ops.GETR, 2, 1, 0), Ops.i(Ops.SAME, 0, 2, 3), Ops.i(Ops.SHOW, 0),
                Ops.number(2, 9), Ops.i(Ops.PUTI, 1, 2, 0), Ops.i(Ops.PUTR, 1, 1, 0), Ops.i(Ops.LOCK, 1));
        CHECK.runs("the first run", mill, 0, 14, 1, 0, 1);
        CHECK.runs("a later run", mill, 0, 14, 1, 0, 1);
        EscapeMill unlock = Ops.mill(Ops.i(Ops.NEW, 1), Ops.i(Ops.STORE, 1, 0), Ops.i(Ops.LOCK, 1));
        unlock.run(false);
        Ops.write(unlock, 0, 0, Ops.i(Ops.NEW, 1), Ops.i(Ops.STORE, 1, 0), Ops.i(Ops.UNLOCK, 1));
        CHECK.runs("counts begin anew", unlock, 2, 3);
        EscapeMill loop = Ops.mill(Ops.number(0, 2), Ops.number(1, -1), Ops.i(Ops.NEW, 3), Ops.i(Ops.GETI, 2, 3, 1),
                Ops.i(Ops.SHOW, 2), Ops.i(Ops.PUTI, 3, 1, 1), Ops.i(Ops.LOCK, 3), Ops.i(Ops.ADD, 0, 0, 1),
                Ops.zero(0, 10), Ops.jump(2), Ops.i(Ops.UNLOCK, 3), Ops.i(Ops.UNLOCK, 3));
        CHECK.runs("parts begin anew", loop, 2, 19, 0, 0);
    }
}
