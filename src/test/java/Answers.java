import java.util.ArrayList;
import java.util.List;

/** All that can be asked of a mill, in one row, so that two mills can be held against one another. */
final class Answers {
    private Answers() {
    }

    /** What it answers now, and then of a run as written and one as milled. */
    static List<Integer> of(EscapeMill mill) {
        List<Integer> all = new ArrayList<>();
        addLatest(all, mill);
        for (int m = 0; m < 5; m++) {
            addMethod(all, mill, m);
        }
        for (int k = 0; k < 2; k++) {
            all.add(mill.run(k == 1));
            addLatest(all, mill);
        }
        return all;
    }

    private static void addMethod(List<Integer> all, EscapeMill mill, int m) {
        all.add(mill.length(m));
        all.add(mill.summary(m, 0));
        all.add(mill.summary(m, 1));
        for (int r = 0; r < 4; r++) {
            all.add(mill.may(m, r));
        }
        for (int i = 0; i < mill.length(m); i++) {
            all.add(mill.escape(m, i));
            all.add(mill.fate(m, i));
        }
    }

    private static void addLatest(List<Integer> all, EscapeMill mill) {
        for (int what = 0; what < 5; what++) {
            all.add(mill.latest(what));
        }
        for (int i = 0; i < Math.min(mill.latest(1), 32); i++) {
            all.add(mill.shown(i));
        }
    }
}
