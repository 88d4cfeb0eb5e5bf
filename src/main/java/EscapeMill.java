import java.util.Arrays;

/**
 * A mill for programs with objects: methods are put together instruction by instruction, an
 * analysis finds out which of the objects that a method makes can be seen by others, those that
 * cannot are taken apart into plain variables, locks on them go, and both programs, as written and
 * as milled, can be run and do the same.
 */
public final class EscapeMill {
    public static final int NONE = -1;

    private static final int METHODS = 5;
    private static final int ROOM = 24;
    private static final int MOST_INPUTS = 2;
    private static final int VARIABLES = 4;
    private static final int GLOBALS = 4;
    private static final int FIELDS = 2;

    private static final int NEW = 0;
    private static final int COPY = 1;
    private static final int NULL = 2;
    private static final int GETR = 3;
    private static final int PUTR = 4;
    private static final int GETI = 5;
    private static final int PUTI = 6;
    private static final int CONST = 7;
    private static final int ADD = 8;
    private static final int SAME = 9;
    private static final int LOCK = 10;
    private static final int UNLOCK = 11;
    private static final int STORE = 12;
    private static final int FETCH = 13;
    private static final int JUMP = 14;
    private static final int ZERO = 15;
    private static final int CALL = 16;
    private static final int RETURN = 17;
    private static final int SHOW = 18;

    // What an object may come to, and what a call does to an argument, by the same three numbers.
    private static final int UNSEEN = 0;
    private static final int PASSED = 1;
    private static final int KNOWN = 2;

    private static final int STAYS = 0;
    private static final int APART = 1;
    private static final int PAIRED = 2;

    // Sets of abstract objects are ints: bits 0 .. 23 the sites, 24 and 25 the ARGs, 26 the WORLD.
    private static final int KINDS = 27;
    private static final int WORLD_KIND = 26;
    private static final int ARG = 1 << ROOM;
    private static final int WORLD = 1 << WORLD_KIND;

    // Each round but the last makes one of (4 + 2 * 27 + 1) sets of at most 27 bits grow.
    private static final int MOST_ROUNDS = 2000;

    private static final int MOST_RUNNING = 8;
    private static final int MOST_DONE = 400;
    private static final int MOST_KEPT = 32;

    // A turn does an instruction or leaves a method, and each method but one was entered by a CALL.
    private static final int MOST_TURNS = 2 * MOST_DONE + 2;

    private static final int NO_FAILURE = 0;
    private static final int OF_NULL = 1;
    private static final int NOT_LOCKED = 2;
    private static final int NO_CALL = 3;
    private static final int TOO_LONG = 4;

    private final Code[] codes = new Code[METHODS];
    private final Facts[] facts = new Facts[METHODS];
    private final Plan[] plans = new Plan[METHODS];
    private final Machine machine = new Machine();
    private boolean stale = false;

    public EscapeMill() {
        for (int m = 0; m < METHODS; m++) {
            codes[m] = new Code();
            facts[m] = new Facts();
            plans[m] = new Plan();
        }
    }

    public boolean parameters(int m, int many) throws IllegalArgumentException {
        if (!isMethod(m) || many < 0 || many > MOST_INPUTS) {
            throw new IllegalArgumentException();
        }
        codes[m].inputs = many;
        stale = true;
        return true;
    }

    public int put(int m, int op, int x, int y, int z, int n)
            throws IllegalArgumentException, IllegalStateException {
        if (!isMethod(m) || !isInstruction(op, x, y, z, n)) {
            throw new IllegalArgumentException();
        }
        if (codes[m].size >= ROOM) {
            throw new IllegalStateException();
        }
        stale = true;
        return codes[m].append(op, x, y, z, n);
    }

    public int clear(int m) throws IllegalArgumentException {
        if (!isMethod(m)) {
            throw new IllegalArgumentException();
        }
        int many = codes[m].size;
        codes[m].size = 0;
        stale = true;
        return many;
    }

    public int run(boolean milled) {
        if (milled) {
            settle();
        }
        return machine.go(codes, plans, milled);
    }

    public int shown(int i) throws IndexOutOfBoundsException {
        if (i < 0 || i >= MOST_KEPT || i >= machine.showed) {
            throw new IndexOutOfBoundsException();
        }
        return machine.kept[i];
    }

    public int latest(int what) {
        switch (what) {
            case 0:
                return machine.failure;
            case 1:
                return machine.showed;
            case 2:
                return machine.done;
            case 3:
                return machine.made;
            case 4:
                return machine.locked;
            default:
                return NONE;
        }
    }

    public int escape(int m, int i) {
        if (!isMethod(m) || !codes[m].has(i) || codes[m].ops[i] != NEW) {
            return NONE;
        }
        settle();
        return facts[m].escapeOf(i);
    }

    public int summary(int m, int p) {
        if (!isMethod(m) || p < 0 || p >= codes[m].inputs) {
            return NONE;
        }
        settle();
        return facts[m].states[p];
    }

    public int fate(int m, int i) {
        if (!isMethod(m) || !codes[m].has(i)) {
            return NONE;
        }
        settle();
        return plans[m].fates[i];
    }

    public int may(int m, int r) {
        if (!isMethod(m) || r < 0 || r >= VARIABLES) {
            return NONE;
        }
        settle();
        return facts[m].mayBe[r];
    }

    public int length(int m) {
        return isMethod(m) ? codes[m].size : NONE;
    }

    private static boolean isMethod(int m) {
        return m >= 0 && m < METHODS;
    }

    private static boolean isVariable(int v) {
        return v >= 0 && v < VARIABLES;
    }

    private static boolean isInstruction(int op, int x, int y, int z, int n) {
        if (op < NEW || op > SHOW || !isVariable(x) || !isVariable(y) || !isVariable(z)) {
            return false;
        }
        boolean ofField = op == GETR || op == PUTR || op == GETI || op == PUTI;
        if (ofField && z >= FIELDS) {
            return false;
        }
        return op != CALL || isMethod(n);
    }

    /**
     * Brings facts and plans up to date. All methods are gone through anew, as the parameters of a
     * method say what the arguments of its callers are, above it and below.
     */
    private void settle() {
        if (!stale) {
            return;
        }
        for (int m = METHODS - 1; m >= 0; m--) {
            facts[m].gather(codes, facts, m);
            plans[m].draw(codes, facts[m], m);
        }
        stale = false;
    }

    /** The instructions of one method, and the ways through them. */
    private static final class Code {
        final int[] ops = new int[ROOM];
        final int[] xs = new int[ROOM];
        final int[] ys = new int[ROOM];
        final int[] zs = new int[ROOM];
        final int[] ns = new int[ROOM];
        int size = 0;
        int inputs = 0;

        boolean has(int i) {
            return i >= 0 && i < size;
        }

        int append(int op, int x, int y, int z, int n) {
            int i = size;
            ops[i] = op;
            xs[i] = x;
            ys[i] = y;
            zs[i] = z;
            ns[i] = n;
            size = i + 1;
            return i;
        }

        /** Whether instruction i sets reference r. */
        boolean defines(int i, int r) {
            switch (ops[i]) {
                case NEW:
                case COPY:
                case NULL:
                case GETR:
                case FETCH:
                case CALL:
                    return xs[i] == r;
                default:
                    return false;
            }
        }

        /** Whether instruction i works on the object in r without handing it on. */
        boolean worksOn(int i, int r) {
            switch (ops[i]) {
                case GETR:
                case GETI:
                    return ys[i] == r;
                case PUTR:
                case PUTI:
                case LOCK:
                case UNLOCK:
                    return xs[i] == r;
                case SAME:
                    return ys[i] == r || zs[i] == r;
                default:
                    return false;
            }
        }

        /** Whether instruction i hands on what is in r; a callee with so many inputs, if it is a CALL. */
        boolean handsOn(int i, int r, int calleeInputs) {
            switch (ops[i]) {
                case COPY:
                case PUTR:
                    return ys[i] == r;
                case STORE:
                case RETURN:
                    return xs[i] == r;
                case CALL:
                    return (calleeInputs >= 1 && ys[i] == r) || (calleeInputs >= 2 && zs[i] == r);
                default:
                    return false;
            }
        }

        boolean jumps(int i) {
            return ops[i] == JUMP || ops[i] == ZERO;
        }

        /**
         * The instructions, as bits, to which a way from instruction 0 leads that does not go over
         * the hole: all others are dominated by it, those to which no way leads at all too.
         */
        int reachedWithout(int hole) {
            int allowed = ~(1 << hole);
            int seen = bit(0) & allowed;
            for (int round = 0; round < ROOM; round++) {
                int more = (seen | behind(seen)) & allowed;
                if (more == seen) {
                    break;
                }
                seen = more;
            }
            return seen;
        }

        /** The instructions that come next behind any of the seen ones. */
        private int behind(int seen) {
            int next = 0;
            for (int i = 0; i < size; i++) {
                if ((seen >> i & 1) == 0) {
                    continue;
                }
                if (ops[i] != JUMP && ops[i] != RETURN) {
                    next |= bit(i + 1);
                }
                if (jumps(i)) {
                    next |= bit(ns[i]);
                }
            }
            return next;
        }

        private int bit(int i) {
            return has(i) ? 1 << i : 0;
        }
    }

    /** What the analysis finds out about one method. */
    private static final class Facts {
        final int[] mayBe = new int[VARIABLES];
        // The ARGs and the WORLD have the same set in both rows.
        final int[][] held = new int[FIELDS][KINDS];
        final int[] states = new int[MOST_INPUTS];
        // Whether something hangs on a parameter and on the WORLD as well.
        final boolean[] mixed = new boolean[MOST_INPUTS];
        int given = 0;
        int fromWorld = 0;
        int fromCaller = 0;
        boolean grown = false;

        int escapeOf(int site) {
            if ((fromWorld >> site & 1) == 1) {
                return KNOWN;
            }
            return (fromCaller >> site & 1) == 1 ? PASSED : UNSEEN;
        }

        /** Finds the least sets for method m; the methods above it must have been gone through. */
        void gather(Code[] codes, Facts[] facts, int m) {
            forget();
            Code code = codes[m];
            if (code.size == 0) {
                return;
            }
            begin(code.inputs);
            grown = true;
            for (int round = 0; round < MOST_ROUNDS && grown; round++) {
                grown = false;
                for (int i = 0; i < code.size; i++) {
                    if (code.ops[i] == CALL) {
                        applyCall(codes, facts, m, i);
                    } else {
                        apply(code, i);
                    }
                }
            }
            sumUp(code.inputs);
        }

        private void forget() {
            Arrays.fill(mayBe, 0);
            Arrays.fill(held[0], 0);
            Arrays.fill(held[1], 0);
            Arrays.fill(states, UNSEEN);
            for (int p = 0; p < MOST_INPUTS; p++) {
                mixed[p] = false;
            }
            given = 0;
            fromWorld = 0;
            fromCaller = 0;
        }

        private void begin(int inputs) {
            for (int p = 0; p < inputs; p++) {
                refer(p, ARG << p);
                holdInBoth(ARG << p, ARG << p);
            }
            holdInBoth(WORLD, WORLD);
        }

        private void apply(Code code, int i) {
            int x = code.xs[i];
            int y = code.ys[i];
            int z = code.zs[i];
            switch (code.ops[i]) {
                case NEW:
                    refer(x, 1 << i);
                    break;
                case COPY:
                    refer(x, mayBe[y]);
                    break;
                case GETR:
                    refer(x, heldBy(mayBe[y], z));
                    break;
                case PUTR:
                    hold(mayBe[x], z, mayBe[y]);
                    break;
                case STORE:
                    holdInBoth(WORLD, mayBe[x]);
                    break;
                case FETCH:
                    refer(x, held[0][WORLD_KIND]);
                    break;
                case RETURN:
                    given |= mayBe[x];
                    break;
                default:
                    break;
            }
        }

        private void applyCall(Code[] codes, Facts[] facts, int m, int i) {
            int x = codes[m].xs[i];
            int y = codes[m].ys[i];
            int z = codes[m].zs[i];
            int n = codes[m].ns[i];
            int inputs = codes[n].inputs;
            boolean unknown = n <= m || codes[n].size == 0;
            holdInBoth(reached(WORLD), WORLD);
            refer(x, held[0][WORLD_KIND]);
            for (int p = 0; p < inputs; p++) {
                int state = unknown ? KNOWN : facts[n].states[p];
                int argument = mayBe[p == 0 ? y : z];
                int hangs = reached(argument);
                boolean meetsWorld = state == KNOWN || facts[n].mixed[p];
                holdInBoth(hangs, meetsWorld ? hangs | WORLD : hangs);
                if (state == KNOWN) {
                    holdInBoth(WORLD, argument);
                } else if (state == PASSED) {
                    int all = reached(inputs == 2 ? mayBe[y] | mayBe[z] : argument);
                    holdInBoth(all, all);
                    refer(x, all);
                }
            }
        }

        private void sumUp(int inputs) {
            int fromGiven = reached(given);
            fromWorld = reached(WORLD);
            fromCaller = fromGiven;
            for (int p = 0; p < inputs; p++) {
                int own = reached(ARG << p);
                int other = inputs == 2 ? reached(ARG << (1 - p)) : 0;
                mixed[p] = (own & fromWorld) != 0;
                if ((fromWorld & (ARG << p)) != 0) {
                    states[p] = KNOWN;
                } else if ((own & (fromGiven | other)) != 0) {
                    states[p] = PASSED;
                }
                fromCaller |= own;
            }
        }

        private void refer(int r, int set) {
            if ((mayBe[r] | set) != mayBe[r]) {
                mayBe[r] |= set;
                grown = true;
            }
        }

        /** Each of the holders holds the set in that field; those that are no sites, in both. */
        private void hold(int holders, int field, int set) {
            int sites = holders & (ARG - 1);
            holdIn(field, sites, set);
            holdInBoth(holders & ~sites, set);
        }

        private void holdInBoth(int holders, int set) {
            holdIn(0, holders, set);
            holdIn(1, holders, set);
        }

        private void holdIn(int field, int holders, int set) {
            int[] row = held[field];
            for (int a = 0; a < KINDS; a++) {
                if ((holders >> a & 1) == 1 && (row[a] | set) != row[a]) {
                    row[a] |= set;
                    grown = true;
                }
            }
        }

        private int heldBy(int holders, int field) {
            int[] row = held[field];
            int set = 0;
            for (int a = 0; a < KINDS; a++) {
                if ((holders >> a & 1) == 1) {
                    set |= row[a];
                }
            }
            return set;
        }

        private int reached(int from) {
            int all = from;
            for (int round = 0; round < KINDS; round++) {
                int more = all | heldBy(all, 0) | heldBy(all, 1);
                if (more == all) {
                    break;
                }
                all = more;
            }
            return all;
        }
    }

    /** What milling makes of the instructions of one method. */
    private static final class Plan {
        final int[] fates = new int[ROOM];

        void draw(Code[] codes, Facts facts, int m) {
            Arrays.fill(fates, STAYS);
            Code code = codes[m];
            for (int r = code.inputs; r < VARIABLES; r++) {
                int site = soleNew(code, r);
                if (site == NONE) {
                    continue;
                }
                int free = code.reachedWithout(site);
                if (staysInside(codes, m, r) && isMadeFirst(code, r, free)) {
                    takeApart(code, r, site);
                } else if (facts.escapeOf(site) == UNSEEN) {
                    pairLocks(code, r, free);
                }
            }
        }

        /** The NEW that alone defines r; NONE if r has other definitions, or none. */
        private static int soleNew(Code code, int r) {
            int site = NONE;
            for (int i = 0; i < code.size; i++) {
                if (!code.defines(i, r)) {
                    continue;
                }
                if (code.ops[i] != NEW || site != NONE) {
                    return NONE;
                }
                site = i;
            }
            return site;
        }

        private static boolean staysInside(Code[] codes, int m, int r) {
            Code code = codes[m];
            for (int i = 0; i < code.size; i++) {
                int calleeInputs = code.ops[i] == CALL ? codes[code.ns[i]].inputs : 0;
                if (code.handsOn(i, r, calleeInputs)) {
                    return false;
                }
            }
            return true;
        }

        /** Whether no use of r is among the instructions that are free of its NEW. */
        private static boolean isMadeFirst(Code code, int r, int free) {
            for (int i = 0; i < code.size; i++) {
                if (code.worksOn(i, r) && (free >> i & 1) == 1) {
                    return false;
                }
            }
            return true;
        }

        private void takeApart(Code code, int r, int site) {
            fates[site] = APART;
            for (int i = 0; i < code.size; i++) {
                if (code.worksOn(i, r)) {
                    fates[i] = APART;
                }
            }
        }

        private void pairLocks(Code code, int r, int free) {
            for (int i = 0; i < code.size; i++) {
                if (code.ops[i] != LOCK || code.xs[i] != r || (free >> i & 1) == 1) {
                    continue;
                }
                int j = partner(code, i);
                if (j != NONE) {
                    fates[i] = PAIRED;
                    fates[j] = PAIRED;
                }
            }
        }

        /** The UNLOCK that makes a pair with the LOCK at i, or NONE. */
        private static int partner(Code code, int i) {
            for (int j = i + 1; j < code.size; j++) {
                if (code.ops[j] == UNLOCK && code.xs[j] == code.xs[i]) {
                    return isJumpedInto(code, i + 1, j) ? NONE : j;
                }
                if (endsPairing(code.ops[j])) {
                    return NONE;
                }
            }
            return NONE;
        }

        private static boolean endsPairing(int op) {
            switch (op) {
                case NEW:
                case LOCK:
                case UNLOCK:
                case JUMP:
                case ZERO:
                case RETURN:
                case CALL:
                    return true;
                default:
                    return false;
            }
        }

        private static boolean isJumpedInto(Code code, int from, int to) {
            for (int i = 0; i < code.size; i++) {
                if (code.jumps(i) && code.ns[i] >= from && code.ns[i] <= to) {
                    return true;
                }
            }
            return false;
        }
    }

    /** Runs programs, and keeps what the latest run did. */
    private static final class Machine {
        // A reference is the number of a cell. Cell 0 stands for NULL; objects have the next ones,
        // and behind these each variable of each running method has one for its parts.
        private static final int NULL_CELL = 0;
        private static final int FIRST_PARTS = 1 + MOST_DONE;
        private static final int CELLS = FIRST_PARTS + MOST_RUNNING * VARIABLES;

        private final int[] refs = new int[CELLS * FIELDS];
        private final int[] ints = new int[CELLS * FIELDS];
        private final int[] counts = new int[CELLS];
        private final int[] globals = new int[GLOBALS];

        // The running methods, the latest one on top; each has VARIABLES places in rs and is.
        private final int[] methods = new int[MOST_RUNNING];
        private final int[] places = new int[MOST_RUNNING];
        private final int[] targets = new int[MOST_RUNNING];
        private final int[] rs = new int[MOST_RUNNING * VARIABLES];
        private final int[] is = new int[MOST_RUNNING * VARIABLES];
        private int running = 0;

        final int[] kept = new int[MOST_KEPT];
        int failure = NO_FAILURE;
        int showed = 0;
        int done = 0;
        int made = 0;
        int locked = 0;

        int go(Code[] codes, Plan[] plans, boolean milled) {
            begin();
            for (int turn = 0; turn < MOST_TURNS && running > 0 && failure == NO_FAILURE; turn++) {
                int top = running - 1;
                int m = methods[top];
                int i = places[top];
                if (!codes[m].has(i)) {
                    leave(NULL_CELL);
                } else if (done >= MOST_DONE) {
                    failure = TOO_LONG;
                } else {
                    done++;
                    places[top] = i + 1;
                    perform(codes, m, i, milled ? plans[m].fates[i] : STAYS);
                }
            }
            return failure;
        }

        private void begin() {
            Arrays.fill(globals, NULL_CELL);
            failure = NO_FAILURE;
            showed = 0;
            done = 0;
            made = 0;
            locked = 0;
            running = 0;
            enter(0, 0, NULL_CELL, NULL_CELL);
        }

        private void perform(Code[] codes, int m, int i, int fate) {
            int op = codes[m].ops[i];
            int x = codes[m].xs[i];
            int y = codes[m].ys[i];
            switch (op) {
                case GETR:
                case GETI:
                    workOnField(op, x, y, codes[m].zs[i], cellOf(y));
                    break;
                case PUTR:
                case PUTI:
                    workOnField(op, x, y, codes[m].zs[i], cellOf(x));
                    break;
                case LOCK:
                case UNLOCK:
                    if (fate != PAIRED) {
                        changeCount(op, cellOf(x));
                    }
                    break;
                case CALL:
                    call(codes, m, i);
                    break;
                case RETURN:
                    leave(cellOf(x));
                    break;
                case JUMP:
                    places[running - 1] = codes[m].ns[i];
                    break;
                case ZERO:
                    if (is[base() + x] == 0) {
                        places[running - 1] = codes[m].ns[i];
                    }
                    break;
                case NEW:
                    rs[base() + x] = fate == APART ? newParts(x) : newObject();
                    break;
                default:
                    move(codes[m], i);
                    break;
            }
        }

        /** The instructions that can neither fail nor go elsewhere. */
        private void move(Code code, int i) {
            int base = base();
            int x = code.xs[i];
            int y = code.ys[i];
            int z = code.zs[i];
            switch (code.ops[i]) {
                case COPY:
                    rs[base + x] = rs[base + y];
                    break;
                case NULL:
                    rs[base + x] = NULL_CELL;
                    break;
                case CONST:
                    is[base + x] = code.ns[i];
                    break;
                case ADD:
                    is[base + x] = is[base + y] + is[base + z];
                    break;
                case SAME:
                    // Right for parts too: their cell is in the one variable that they belong to.
                    is[base + x] = rs[base + y] == rs[base + z] ? 1 : 0;
                    break;
                case STORE:
                    globals[y] = rs[base + x];
                    break;
                case FETCH:
                    rs[base + x] = globals[y];
                    break;
                case SHOW:
                    show(is[base + x]);
                    break;
                default:
                    break;
            }
        }

        private int base() {
            return (running - 1) * VARIABLES;
        }

        private int cellOf(int r) {
            return rs[base() + r];
        }

        private int newObject() {
            made++;
            return emptied(made);
        }

        private int newParts(int r) {
            return emptied(FIRST_PARTS + base() + r);
        }

        private int emptied(int cell) {
            for (int f = 0; f < FIELDS; f++) {
                refs[cell * FIELDS + f] = NULL_CELL;
                ints[cell * FIELDS + f] = 0;
            }
            counts[cell] = 0;
            return cell;
        }

        private void workOnField(int op, int x, int y, int z, int cell) {
            if (cell == NULL_CELL) {
                failure = OF_NULL;
                return;
            }
            int base = base();
            int at = cell * FIELDS + z;
            if (op == GETR) {
                rs[base + x] = refs[at];
            } else if (op == GETI) {
                is[base + x] = ints[at];
            } else if (op == PUTR) {
                refs[at] = rs[base + y];
            } else {
                ints[at] = is[base + y];
            }
        }

        private void changeCount(int op, int cell) {
            if (cell == NULL_CELL) {
                failure = OF_NULL;
            } else if (op == UNLOCK && counts[cell] == 0) {
                failure = NOT_LOCKED;
            } else {
                counts[cell] += op == LOCK ? 1 : -1;
                locked += cell < FIRST_PARTS ? 1 : 0;
            }
        }

        private void show(int number) {
            if (showed < MOST_KEPT) {
                kept[showed] = number;
            }
            showed++;
        }

        private void call(Code[] codes, int m, int i) {
            Code code = codes[m];
            int n = code.ns[i];
            if (codes[n].size == 0 || running >= MOST_RUNNING) {
                failure = NO_CALL;
                return;
            }
            int inputs = codes[n].inputs;
            int first = inputs >= 1 ? cellOf(code.ys[i]) : NULL_CELL;
            int second = inputs >= 2 ? cellOf(code.zs[i]) : NULL_CELL;
            enter(n, code.xs[i], first, second);
        }

        /** Method m begins to run; what it gives goes to the target, a reference of its caller. */
        private void enter(int m, int target, int first, int second) {
            methods[running] = m;
            places[running] = 0;
            targets[running] = target;
            running++;
            int base = base();
            for (int v = 0; v < VARIABLES; v++) {
                rs[base + v] = NULL_CELL;
                is[base + v] = 0;
            }
            rs[base] = first;
            rs[base + 1] = second;
        }

        private void leave(int cell) {
            running--;
            if (running > 0) {
                rs[base() + targets[running]] = cell;
            }
        }
    }
}
