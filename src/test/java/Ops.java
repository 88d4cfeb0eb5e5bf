/** The operations by name, and a short way to write methods. */
final class Ops {
    static final int NEW = 0;
    static final int COPY = 1;
    static final int NULL = 2;
    static final int GETR = 3;
    static final int PUTR = 4;
    static final int GETI = 5;
    static final int PUTI = 6;
    static final int CONST = 7;
    static final int ADD = 8;
    static final int SAME = 9;
    static final int LOCK = 10;
    static final int UNLOCK = 11;
    static final int STORE = 12;
    static final int FETCH = 13;
    static final int JUMP = 14;
    static final int ZERO = 15;
    static final int CALL = 16;
    static final int RETURN = 17;
    static final int SHOW = 18;

    static final int ARG0 = 1 << 24;
    static final int ARG1 = 1 << 25;
    static final int WORLD = 1 << 26;

    private Ops() {
    }

    /** An instruction: op, x, y, z. */
    static int[] i(int op, int... xyz) {
        int[] all = new int[5];
        all[0] = op;
        System.arraycopy(xyz, 0, all, 1, xyz.length);
        return all;
    }

    static int[] number(int x, int n) {
        return new int[] {CONST, x, 0, 0, n};
    }

    static int[] jump(int n) {
        return new int[] {JUMP, 0, 0, 0, n};
    }

    static int[] zero(int x, int n) {
        return new int[] {ZERO, x, 0, 0, n};
    }

    static int[] call(int x, int n, int y, int z) {
        return new int[] {CALL, x, y, z, n};
    }

    /** Method m gets so many parameters and these instructions alone. */
    static void write(EscapeMill mill, int m, int many, int[]... code) {
        mill.clear(m);
        mill.parameters(m, many);
        for (int[] c : code) {
            mill.put(m, c[0], c[1], c[2], c[3], c[4]);
        }
    }

    /** A mill with this method 0 alone. */
    static EscapeMill mill(int[]... code) {
        EscapeMill mill = new EscapeMill();
        write(mill, 0, 0, code);
        return mill;
    }
}
