import java.util.Random;

/** Made-up instructions, as op, x, y, z, n: the same ones for the same seed. */
final class MadeUp {
    private MadeUp() {
    }

    /** Any instruction at all. */
    static int[] wild(Random random, int size) {
        int op = random.nextInt(19);
        boolean ofField = op >= Ops.GETR && op <= Ops.PUTI;
        int n = op == Ops.CALL ? random.nextInt(5) : random.nextInt(size + 3) - 1;
        return new int[] {op, random.nextInt(4), random.nextInt(4), random.nextInt(ofField ? 2 : 4), n};
    }

    /** Mostly objects made first and then worked on, jumps forwards, calls upwards: long runs. */
    static int[] calm(Random random, int m, int i, int size) {
        int[] c = wild(random, size);
        if (i < 3 && random.nextInt(4) > 0) {
            return new int[] {Ops.NEW, 3 - i, 0, 0, 0};
        }
        int[] tame = {Ops.GETI, Ops.PUTI, Ops.LOCK, Ops.LOCK, Ops.UNLOCK, Ops.UNLOCK, Ops.SAME, Ops.SHOW, Ops.CONST,
            Ops.PUTR, Ops.GETR, Ops.ADD, Ops.COPY, Ops.CALL};
        c[0] = random.nextInt(5) > 0 ? tame[random.nextInt(tame.length)] : c[0];
        if (c[0] >= Ops.GETR && c[0] <= Ops.PUTI) {
            c[3] &= 1;
        }
        if (c[0] == Ops.LOCK || c[0] == Ops.UNLOCK) {
            c[1] = 3 - random.nextInt(2);
        }
        if (c[0] == Ops.COPY || c[0] == Ops.GETR || c[0] == Ops.CALL) {
            c[1] = random.nextInt(8) > 0 ? 0 : c[1];
        }
        if (c[0] == Ops.CALL) {
            c[4] = random.nextInt(6) > 0 ? Math.min(4, m + 1 + random.nextInt(2)) : random.nextInt(5);
        } else if (c[0] == Ops.JUMP || c[0] == Ops.ZERO) {
            c[4] = random.nextInt(3) > 0 ? i + 1 + random.nextInt(4) : c[4];
        }
        return c;
    }
}
