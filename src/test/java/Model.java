import java.util.ArrayList;
import java.util.HashMap;
import java.util.HashSet;
import java.util.List;
import java.util.Map;
import java.util.Set;
import java.util.TreeSet;

/**
 * The document's terms once more, built in another way than the program: sets of numbers, real
 * objects, methods that run within one another, dominators from those that come before.
 */
final class Model {
    static final int ARG = 24;
    static final int WORLD = 26;

    /** One method: its instructions as op, x, y, z, n. */
    static final class Method {
        final List<int[]> code = new ArrayList<>();
        int many = 0;
        List<Set<Integer>> may = new ArrayList<>();
        Map<Integer, Set<Integer>> holds = new HashMap<>();
        Set<Integer> given = new HashSet<>();
        int[] summary = {0, 0};
        int[] fates = {};
    }

    private static final class Thing {
        final Thing[] f = new Thing[2];
        final int[] g = new int[2];
        int count = 0;
    }

    private static final class Failure extends RuntimeException {
        private static final long serialVersionUID = 1L;
        final int number;

        Failure(int number) {
            this.number = number;
        }
    }

    final Method[] methods = new Method[5];
    final List<Integer> shown = new ArrayList<>();
    int failure;
    int done;
    int made;
    int locked;
    private int running;
    private Thing[] globals;

    Model() {
        for (int m = 0; m < 5; m++) {
            methods[m] = new Method();
        }
    }

    // The analysis.

    void analyse() {
        for (int m = 4; m >= 0; m--) {
            analyse(m);
        }
        for (int m = 0; m < 5; m++) {
            plan(m);
        }
    }

    private void analyse(int m) {
        Method me = methods[m];
        me.may = new ArrayList<>();
        for (int r = 0; r < 4; r++) {
            me.may.add(new HashSet<>());
        }
        me.holds = new HashMap<>();
        me.given = new HashSet<>();
        me.summary = new int[] {0, 0};
        if (me.code.isEmpty()) {
            return;
        }
        for (int p = 0; p < me.many; p++) {
            me.may.get(p).add(ARG + p);
            holds(me, ARG + p, 0).add(ARG + p);
        }
        holds(me, WORLD, 0).add(WORLD);
        int before = -1;
        while (size(me) != before) {
            before = size(me);
            // Backwards, so that the order is not the program's.
            for (int i = me.code.size() - 1; i >= 0; i--) {
                rule(m, i);
            }
        }
        for (int p = 0; p < me.many; p++) {
            me.summary[p] = summarise(me, p);
        }
    }

    private static int size(Method me) {
        int size = me.given.size();
        for (Set<Integer> set : me.may) {
            size += set.size();
        }
        for (Set<Integer> set : me.holds.values()) {
            size += set.size();
        }
        return size;
    }

    /** The set that something holds in a field; sites alone have one for each field. */
    private static Set<Integer> holds(Method me, int a, int field) {
        return me.holds.computeIfAbsent(a < ARG ? a * 2 + field : 1000 + a, k -> new HashSet<>());
    }

    private static Set<Integer> reached(Method me, Set<Integer> from) {
        Set<Integer> all = new HashSet<>();
        List<Integer> open = new ArrayList<>(from);
        while (!open.isEmpty()) {
            int a = open.remove(open.size() - 1);
            if (all.add(a)) {
                open.addAll(holds(me, a, 0));
                open.addAll(holds(me, a, 1));
            }
        }
        return all;
    }

    private static Set<Integer> reached(Method me, int a) {
        return reached(me, Set.of(a));
    }

    private static void holdBoth(Method me, Set<Integer> holders, Set<Integer> what) {
        for (int a : holders) {
            holds(me, a, 0).addAll(what);
            holds(me, a, 1).addAll(what);
        }
    }

    private static boolean meet(Set<Integer> one, Set<Integer> other) {
        for (int a : one) {
            if (other.contains(a)) {
                return true;
            }
        }
        return false;
    }

    private int summarise(Method me, int p) {
        if (reached(me, WORLD).contains(ARG + p)) {
            return 2;
        }
        Set<Integer> own = reached(me, ARG + p);
        if (meet(own, reached(me, me.given))) {
            return 1;
        }
        return me.many == 2 && meet(own, reached(me, ARG + 1 - p)) ? 1 : 0;
    }

    private void rule(int m, int i) {
        Method me = methods[m];
        int[] c = me.code.get(i);
        Set<Integer> rx = me.may.get(c[1]);
        Set<Integer> ry = me.may.get(c[2]);
        switch (c[0]) {
            case Ops.NEW -> rx.add(i);
            case Ops.COPY -> rx.addAll(ry);
            case Ops.GETR -> {
                for (int a : new ArrayList<>(ry)) {
                    rx.addAll(holds(me, a, c[3]));
                }
            }
            case Ops.PUTR -> {
                for (int a : rx) {
                    holds(me, a, c[3]).addAll(ry);
                }
            }
            case Ops.STORE -> holds(me, WORLD, 0).addAll(rx);
            case Ops.FETCH -> rx.addAll(holds(me, WORLD, 0));
            case Ops.RETURN -> me.given.addAll(rx);
            case Ops.CALL -> ruleOfCall(m, c);
            default -> { }
        }
    }

    private void ruleOfCall(int m, int[] c) {
        Method me = methods[m];
        Method callee = methods[c[4]];
        Set<Integer> rx = me.may.get(c[1]);
        holdBoth(me, reached(me, WORLD), Set.of(WORLD));
        rx.addAll(holds(me, WORLD, 0));
        List<Set<Integer>> arguments = new ArrayList<>();
        for (int p = 0; p < callee.many; p++) {
            arguments.add(me.may.get(c[2 + p]));
        }
        Set<Integer> both = new HashSet<>();
        for (Set<Integer> argument : arguments) {
            both.addAll(argument);
        }
        for (int p = 0; p < callee.many; p++) {
            boolean blind = c[4] <= m || callee.code.isEmpty();
            int state = blind ? 2 : callee.summary[p];
            Set<Integer> hangs = reached(me, arguments.get(p));
            holdBoth(me, hangs, hangs);
            if (state == 2 || meet(reached(callee, ARG + p), reached(callee, WORLD))) {
                holdBoth(me, hangs, Set.of(WORLD));
            }
            if (state == 2) {
                holds(me, WORLD, 0).addAll(arguments.get(p));
            }
            if (state == 1) {
                Set<Integer> all = reached(me, both);
                holdBoth(me, all, all);
                rx.addAll(all);
            }
        }
    }

    int may(int m, int r) {
        int bits = 0;
        for (int a : methods[m].may.get(r)) {
            bits |= 1 << a;
        }
        return bits;
    }

    int escape(int m, int i) {
        Method me = methods[m];
        if (me.code.get(i)[0] != Ops.NEW) {
            return -1;
        }
        if (reached(me, WORLD).contains(i)) {
            return 2;
        }
        Set<Integer> outside = new HashSet<>(me.given);
        for (int p = 0; p < me.many; p++) {
            outside.add(ARG + p);
        }
        return reached(me, outside).contains(i) ? 1 : 0;
    }

    // The milling.

    /** For each instruction those that dominate it, as the greatest sets that fit. */
    private static List<Set<Integer>> dominators(Method me) {
        int size = me.code.size();
        List<Set<Integer>> before = new ArrayList<>();
        List<Set<Integer>> dominators = new ArrayList<>();
        for (int i = 0; i < size; i++) {
            before.add(new HashSet<>());
            Set<Integer> all = new TreeSet<>();
            for (int k = 0; k < size; k++) {
                all.add(k);
            }
            dominators.add(all);
        }
        for (int i = 0; i < size; i++) {
            int[] c = me.code.get(i);
            if (c[0] != Ops.RETURN && c[0] != Ops.JUMP && i + 1 < size) {
                before.get(i + 1).add(i);
            }
            if ((c[0] == Ops.JUMP || c[0] == Ops.ZERO) && c[4] >= 0 && c[4] < size) {
                before.get(c[4]).add(i);
            }
        }
        boolean changed = true;
        while (changed) {
            changed = false;
            for (int i = 0; i < size; i++) {
                Set<Integer> left = new TreeSet<>(dominators.get(i));
                if (i == 0) {
                    left.clear();
                }
                for (int k : before.get(i)) {
                    left.retainAll(dominators.get(k));
                }
                left.add(i);
                changed |= !left.equals(dominators.get(i));
                dominators.set(i, left);
            }
        }
        return dominators;
    }

    private static boolean defines(int[] c, int r) {
        return c[1] == r && List.of(Ops.NEW, Ops.COPY, Ops.NULL, Ops.GETR, Ops.FETCH, Ops.CALL).contains(c[0]);
    }

    private static boolean uses(int[] c, int r) {
        return switch (c[0]) {
            case Ops.GETR, Ops.GETI -> c[2] == r;
            case Ops.PUTR, Ops.PUTI, Ops.LOCK, Ops.UNLOCK -> c[1] == r;
            case Ops.SAME -> c[2] == r || c[3] == r;
            default -> false;
        };
    }

    private boolean handsOn(int[] c, int r) {
        return switch (c[0]) {
            case Ops.COPY, Ops.PUTR -> c[2] == r;
            case Ops.STORE, Ops.RETURN -> c[1] == r;
            case Ops.CALL -> methods[c[4]].many > 0 && c[2] == r || methods[c[4]].many > 1 && c[3] == r;
            default -> false;
        };
    }

    private boolean isSole(Method me, int i) {
        int r = me.code.get(i)[1];
        if (me.code.get(i)[0] != Ops.NEW || r < me.many) {
            return false;
        }
        for (int k = 0; k < me.code.size(); k++) {
            if (k != i && defines(me.code.get(k), r)) {
                return false;
            }
        }
        return true;
    }

    private boolean isTakenApart(Method me, int i, List<Set<Integer>> dominators) {
        if (!isSole(me, i)) {
            return false;
        }
        int r = me.code.get(i)[1];
        for (int k = 0; k < me.code.size(); k++) {
            int[] c = me.code.get(k);
            if (handsOn(c, r) || uses(c, r) && !dominators.get(k).contains(i)) {
                return false;
            }
        }
        return true;
    }

    private void plan(int m) {
        Method me = methods[m];
        int size = me.code.size();
        List<Set<Integer>> dominators = dominators(me);
        me.fates = new int[size];
        for (int i = 0; i < size; i++) {
            int r = me.code.get(i)[1];
            if (isTakenApart(me, i, dominators)) {
                me.fates[i] = 1;
                for (int k = 0; k < size; k++) {
                    me.fates[k] = uses(me.code.get(k), r) ? 1 : me.fates[k];
                }
            } else if (isSole(me, i) && escape(m, i) == 0) {
                for (int a = 0; a < size; a++) {
                    for (int b = a + 1; b < size; b++) {
                        if (dominators.get(a).contains(i) && isPair(me, r, a, b)) {
                            me.fates[a] = 2;
                            me.fates[b] = 2;
                        }
                    }
                }
            }
        }
    }

    private static boolean isPair(Method me, int r, int a, int b) {
        int[] one = me.code.get(a);
        int[] other = me.code.get(b);
        if (one[0] != Ops.LOCK || one[1] != r || other[0] != Ops.UNLOCK || other[1] != r) {
            return false;
        }
        Set<Integer> stops = Set.of(Ops.NEW, Ops.LOCK, Ops.UNLOCK, Ops.JUMP, Ops.ZERO, Ops.RETURN, Ops.CALL);
        for (int k = a + 1; k < b; k++) {
            if (stops.contains(me.code.get(k)[0])) {
                return false;
            }
        }
        for (int[] c : me.code) {
            if ((c[0] == Ops.JUMP || c[0] == Ops.ZERO) && c[4] > a && c[4] <= b) {
                return false;
            }
        }
        return true;
    }

    // Running.

    void run(boolean milled) {
        shown.clear();
        failure = 0;
        done = 0;
        made = 0;
        locked = 0;
        running = 0;
        globals = new Thing[4];
        try {
            give(0, null, null, milled);
        } catch (Failure f) {
            failure = f.number;
        }
    }

    private Thing give(int m, Thing first, Thing second, boolean milled) {
        running++;
        Method me = methods[m];
        Thing[] r = {me.many > 0 ? first : null, me.many > 1 ? second : null, null, null};
        int[] n = new int[4];
        Thing[] parts = new Thing[4];
        int i = 0;
        Thing gift = null;
        while (i >= 0 && i < me.code.size()) {
            if (done == 400) {
                throw new Failure(4);
            }
            done++;
            int[] c = me.code.get(i);
            int fate = milled ? me.fates[i] : 0;
            i++;
            if (c[0] == Ops.RETURN) {
                gift = r[c[1]];
                break;
            } else if (c[0] == Ops.JUMP || c[0] == Ops.ZERO && n[c[1]] == 0) {
                i = c[4];
            } else if (c[0] == Ops.CALL) {
                if (methods[c[4]].code.isEmpty() || running == 8) {
                    throw new Failure(3);
                }
                r[c[1]] = give(c[4], r[c[2]], r[c[3]], milled);
            } else if (c[0] == Ops.NEW && fate == 1) {
                parts[c[1]] = new Thing();
            } else if (c[0] == Ops.SAME) {
                boolean same = fate == 1 ? c[2] == c[3] : r[c[2]] == r[c[3]];
                n[c[1]] = same ? 1 : 0;
            } else if (fate != 2) {
                step(c, r, n, fate == 1 ? parts : r, fate == 1);
            }
        }
        running--;
        return gift;
    }

    private static Thing real(Thing thing) {
        if (thing == null) {
            throw new Failure(1);
        }
        return thing;
    }

    /** One plain instruction; what it looks into is in from, the parts or the references. */
    private void step(int[] c, Thing[] r, int[] n, Thing[] from, boolean apart) {
        switch (c[0]) {
            case Ops.NEW -> {
                r[c[1]] = new Thing();
                made++;
            }
            case Ops.COPY -> r[c[1]] = r[c[2]];
            case Ops.NULL -> r[c[1]] = null;
            case Ops.GETR -> r[c[1]] = real(from[c[2]]).f[c[3]];
            case Ops.PUTR -> real(from[c[1]]).f[c[3]] = r[c[2]];
            case Ops.GETI -> n[c[1]] = real(from[c[2]]).g[c[3]];
            case Ops.PUTI -> real(from[c[1]]).g[c[3]] = n[c[2]];
            case Ops.CONST -> n[c[1]] = c[4];
            case Ops.ADD -> n[c[1]] = n[c[2]] + n[c[3]];
            case Ops.LOCK, Ops.UNLOCK -> {
                Thing thing = real(from[c[1]]);
                if (c[0] == Ops.UNLOCK && thing.count == 0) {
                    throw new Failure(2);
                }
                thing.count += c[0] == Ops.LOCK ? 1 : -1;
                locked += apart ? 0 : 1;
            }
            case Ops.STORE -> globals[c[2]] = r[c[1]];
            case Ops.FETCH -> r[c[1]] = globals[c[2]];
            case Ops.SHOW -> shown.add(n[c[1]]);
            default -> { }
        }
    }
}
