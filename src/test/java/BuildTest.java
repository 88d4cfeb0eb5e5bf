/** Promises 1 to 4 and 12: a new object, parameters, put, clear, length. */
public final class BuildTest {
    private static final Check CHECK = new Check("BuildTest");
    private static final Class<IllegalArgumentException> ARGUMENT = IllegalArgumentException.class;
    private static final Class<IllegalStateException> STATE = IllegalStateException.class;
    private static final int[] NO_METHODS = {-1, 5, Integer.MIN_VALUE, Integer.MAX_VALUE};

    public static void main(String[] args) {
        newObject();
        parameters();
        put();
        putRefuses();
        putRefusesWhenFull();
        clear();
        length();
        CHECK.end();
    }

    private static void newObject() {
        EscapeMill mill = new EscapeMill();
        for (int m = 0; m < 5; m++) {
            CHECK.due("length of a new method", mill.length(m), 0);
            CHECK.due("summary of a new method", mill.summary(m, 0), EscapeMill.NONE);
            CHECK.due("fate of a new method", mill.fate(m, 0), EscapeMill.NONE);
            CHECK.due("escape of a new method", mill.escape(m, 0), EscapeMill.NONE);
            for (int r = 0; r < 4; r++) {
                CHECK.due("may of a new method", mill.may(m, r), 0);
            }
        }
        for (int what = 0; what < 5; what++) {
            CHECK.due("latest before a run", mill.latest(what), 0);
        }
        CHECK.throwing("shown before a run", IndexOutOfBoundsException.class, () -> mill.shown(0));
        CHECK.due("run of nothing", mill.run(false), 0);
        CHECK.due("run of nothing, milled", mill.run(true), 0);
        CHECK.due("instructions of nothing", mill.latest(2), 0);
        CHECK.due("NONE", EscapeMill.NONE, -1);
    }

    private static void parameters() {
        EscapeMill mill = new EscapeMill();
        for (int m = 0; m < 5; m++) {
            for (int many = 0; many <= 2; many++) {
                CHECK.holds("parameters", mill.parameters(m, many));
                CHECK.due("first summary", mill.summary(m, 0), many >= 1 ? 0 : EscapeMill.NONE);
                CHECK.due("second summary", mill.summary(m, 1), many == 2 ? 0 : EscapeMill.NONE);
            }
        }
        for (int m : NO_METHODS) {
            CHECK.throwing("parameters of no method", ARGUMENT, () -> mill.parameters(m, 1));
        }
        for (int many : new int[] {-1, 3, Integer.MIN_VALUE, Integer.MAX_VALUE}) {
            CHECK.throwing("so many parameters", ARGUMENT, () -> mill.parameters(1, many));
        }
        CHECK.due("a refused call changes nothing", mill.summary(1, 1), 0);
        Ops.write(mill, 1, 1, Ops.i(Ops.RETURN, 0));
        CHECK.due("may be the first ARG", mill.may(1, 0), Ops.ARG0);
        CHECK.due("R1 is no parameter's", mill.may(1, 1), 0);
        mill.parameters(1, 2);
        CHECK.due("may be the second ARG", mill.may(1, 1), Ops.ARG1);
        CHECK.due("instructions stay", mill.length(1), 1);
    }

    private static void put() {
        EscapeMill mill = new EscapeMill();
        for (int op = 0; op <= 18; op++) {
            int n = op == Ops.CALL ? 4 : Integer.MIN_VALUE;
            CHECK.due("number of an instruction", mill.put(2, op, 3, 3, 1, n), op);
        }
        for (int op : new int[] {0, 1, 2, 7, 8, 9, 10, 11, 12, 13, 14, 15, 16, 17, 18}) {
            mill.clear(3);
            CHECK.due("z 3 where it is no field", mill.put(3, op, 3, 3, 3, 0), 0);
        }
        CHECK.due("the other methods are left alone", mill.length(1), 0);
        for (int m = 0; m < 5; m++) {
            mill.clear(m);
            CHECK.due("first number in each method", mill.put(m, 0, 0, 0, 0, 0), 0);
        }
    }

    private static void refused(String what, int m, int op, int[] xyz, int n) {
        EscapeMill mill = new EscapeMill();
        CHECK.throwing(what, ARGUMENT, () -> mill.put(m, op, xyz[0], xyz[1], xyz[2], n));
        for (int k = 0; k < 5; k++) {
            CHECK.due("length behind a refused put", mill.length(k), 0);
        }
    }

    private static void putRefuses() {
        int[] zeros = {0, 0, 0};
        for (int m : NO_METHODS) {
            refused("put to no method", m, 0, zeros, 0);
        }
        for (int op : new int[] {-1, 19, Integer.MIN_VALUE, Integer.MAX_VALUE}) {
            refused("put of no op", 0, op, zeros, 0);
        }
        for (int op = 0; op <= 18; op++) {
            for (int bad : new int[] {-1, 4, Integer.MIN_VALUE, Integer.MAX_VALUE}) {
                refused("put of such an x", 0, op, new int[] {bad, 0, 0}, 0);
                refused("put of such a y", 0, op, new int[] {0, bad, 0}, 0);
                refused("put of such a z", 0, op, new int[] {0, 0, bad}, 0);
            }
        }
        for (int op : new int[] {Ops.GETR, Ops.PUTR, Ops.GETI, Ops.PUTI}) {
            refused("put of field 2", 0, op, new int[] {0, 0, 2}, 0);
            refused("put of field 3", 0, op, new int[] {0, 0, 3}, 0);
        }
        for (int n : NO_METHODS) {
            refused("CALL of no method", 0, Ops.CALL, zeros, n);
        }
    }

    private static void putRefusesWhenFull() {
        EscapeMill mill = new EscapeMill();
        for (int i = 0; i < 24; i++) {
            CHECK.due("number up to the last", mill.put(4, Ops.SHOW, 0, 0, 0, 0), i);
        }
        CHECK.throwing("the 25th", STATE, () -> mill.put(4, Ops.SHOW, 0, 0, 0, 0));
        CHECK.throwing("a wrong 25th", ARGUMENT, () -> mill.put(4, 19, 0, 0, 0, 0));
        CHECK.due("length when full", mill.length(4), 24);
        CHECK.due("another method has room", mill.put(0, Ops.SHOW, 0, 0, 0, 0), 0);
        CHECK.due("clear of a full one", mill.clear(4), 24);
        CHECK.due("room again", mill.put(4, Ops.SHOW, 0, 0, 0, 0), 0);
    }

    private static void clear() {
        EscapeMill mill = Ops.mill(Ops.i(Ops.NEW, 3), Ops.i(Ops.SHOW, 0));
        mill.parameters(0, 1);
        mill.run(false);
        CHECK.due("clear", mill.clear(0), 2);
        CHECK.due("length behind clear", mill.length(0), 0);
        CHECK.due("fate behind clear", mill.fate(0, 0), EscapeMill.NONE);
        CHECK.due("escape behind clear", mill.escape(0, 0), EscapeMill.NONE);
        CHECK.due("may behind clear", mill.may(0, 3), 0);
        CHECK.due("parameters stay", mill.summary(0, 0), 0);
        CHECK.due("the latest run stays", mill.latest(2), 2);
        CHECK.due("clear of an empty one", mill.clear(0), 0);
        for (int m : NO_METHODS) {
            CHECK.throwing("clear of no method", ARGUMENT, () -> mill.clear(m));
        }
    }

    private static void length() {
        EscapeMill mill = new EscapeMill();
        for (int m = 0; m < 5; m++) {
            for (int i = 0; i <= m; i++) {
                mill.put(m, Ops.SHOW, 0, 0, 0, 0);
            }
        }
        for (int m = 0; m < 5; m++) {
            CHECK.due("length", mill.length(m), m + 1);
        }
        for (int m : NO_METHODS) {
            CHECK.due("length of no method", mill.length(m), EscapeMill.NONE);
        }
    }
}
