import java.util.Arrays;
import java.util.List;

/**
 * Programs as texts: "(1) NEW 2; PUTI 2 0 1; CONST 0 #5" is a method with one parameter (none, if
 * nothing is said) and three instructions, each its operation, x, y, z as far as they matter, and n
 * behind a #.
 */
final class Programs {
    static final List<String> NAMES = Arrays.asList("NEW", "COPY", "NULL", "GETR", "PUTR", "GETI", "PUTI",
            "CONST", "ADD", "SAME", "LOCK", "UNLOCK", "STORE", "FETCH", "JUMP", "ZERO", "CALL", "RETURN", "SHOW");

    private Programs() {
    }

    /** A mill with these methods, 0 first. */
    static EscapeMill mill(String... methods) {
        EscapeMill mill = new EscapeMill();
        for (int m = 0; m < methods.length; m++) {
            write(mill, m, methods[m]);
        }
        return mill;
    }

    /** A mill with this method alone. */
    static EscapeMill only(int m, String text) {
        EscapeMill mill = new EscapeMill();
        write(mill, m, text);
        return mill;
    }

    /** Method m gets these parameters and instructions alone. */
    static void write(EscapeMill mill, int m, String text) {
        mill.clear(m);
        mill.parameters(m, parameters(text));
        add(mill, m, text);
    }

    /** Method m gets these instructions, too. */
    static void add(EscapeMill mill, int m, String text) {
        for (String part : text.substring(text.indexOf(')') + 1).split(";")) {
            if (!part.isBlank()) {
                int[] c = instruction(part.trim());
                mill.put(m, c[0], c[1], c[2], c[3], c[4]);
            }
        }
    }

    private static int parameters(String text) {
        return text.startsWith("(") ? Integer.parseInt(text.substring(1, text.indexOf(')'))) : 0;
    }

    private static int[] instruction(String part) {
        String[] words = part.split(" +");
        int[] c = new int[5];
        c[0] = NAMES.indexOf(words[0]);
        if (c[0] < 0) {
            throw new AssertionError("no operation: " + part);
        }
        for (int k = 1; k < words.length; k++) {
            boolean isN = words[k].startsWith("#");
            c[isN ? 4 : k] = Integer.parseInt(isN ? words[k].substring(1) : words[k]);
        }
        return c;
    }

    /** Instructions of which exactly so many are done, at least 4, before it goes on behind them. */
    static String lead(int many) {
        return lead(many, 0);
    }

    /** The same, the first of them being instruction at. */
    static String lead(int many, int at) {
        int rounds = (many - 1) / 3;
        int rest = many - 1 - 3 * rounds;
        return "CONST 0 #" + rounds + "; CONST 1 #-1; ADD 0 0 1; ZERO 0 #" + (at + 5) + "; JUMP #" + (at + 2) + ";"
                + "NULL 3;".repeat(rest);
    }
}
