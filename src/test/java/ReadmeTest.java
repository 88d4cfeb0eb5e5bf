import java.io.File;
import java.io.IOException;
import java.lang.reflect.InvocationTargetException;
import java.lang.reflect.Method;
import java.util.Arrays;
import java.util.TreeSet;
import java.util.regex.Matcher;
import java.util.regex.Pattern;

/** README.md: its examples answer what they say, its tables have every call, instruction and test. */
public final class ReadmeTest {
    private static final Pattern CALL = Pattern.compile("^mill\\.(\\w+)\\((.*)\\); *// (throws )?(-?\\w+):? .*$");
    private static final Check CHECK = new Check("ReadmeTest");
    private static final TreeSet<String> CALLED = new TreeSet<>();

    public static void main(String[] args) throws IOException, IllegalAccessException {
        String readme = Pages.readme();
        for (String block : Pages.javaBlocks(readme)) {
            example(block);
        }
        face(readme);
        instructions(readme);
        tests(readme);
        CHECK.end();
    }

    private static void example(String block) throws IllegalAccessException {
        EscapeMill mill = new EscapeMill();
        for (String line : block.split("\n")) {
            Matcher call = CALL.matcher(line);
            if (line.isBlank() || line.startsWith("EscapeMill mill = new")) {
                continue;
            }
            CHECK.holds("can be read: " + line, call.matches());
            if (call.matches()) {
                String got = answer(mill, call.group(1), call.group(2).split(", "));
                CHECK.holds(line + " answered " + got, got.equals(call.group(4)));
            }
        }
    }

    private static String answer(EscapeMill mill, String name, String[] words) throws IllegalAccessException {
        CALLED.add(name);
        Object[] values = new Object[words.length];
        for (int k = 0; k < words.length; k++) {
            boolean isTruth = words[k].equals("true") || words[k].equals("false");
            values[k] = isTruth ? (Object) Boolean.valueOf(words[k]) : Integer.valueOf(words[k]);
        }
        for (Method method : EscapeMill.class.getMethods()) {
            if (method.getName().equals(name)) {
                return outcome(mill, method, values);
            }
        }
        return "no such call";
    }

    private static String outcome(EscapeMill mill, Method method, Object[] values) throws IllegalAccessException {
        try {
            return String.valueOf(method.invoke(mill, values));
        } catch (InvocationTargetException e) {
            return e.getCause().getClass().getSimpleName();
        }
    }

    private static void face(String readme) throws IOException {
        for (String[] member : Pages.face()) {
            int at = readme.indexOf("| `" + member[0] + "` |");
            CHECK.holds("the table has " + member[0], at >= 0);
            String row = at < 0 ? "" : readme.substring(at, readme.indexOf('\n', at));
            for (String thrown : member[1].replace(" throws ", "").split(", ")) {
                CHECK.holds("the row of " + member[0] + " has " + thrown, row.contains(thrown));
            }
            String name = member[0].substring(member[0].indexOf(' ') + 1, member[0].indexOf('('));
            CHECK.holds("an example has " + name, name.equals("EscapeMill") || CALLED.contains(name));
        }
    }

    private static void instructions(String readme) {
        for (int op = 0; op < Programs.NAMES.size(); op++) {
            String cell = "| " + op + " | " + Programs.NAMES.get(op) + " |";
            CHECK.holds("the table has " + cell, readme.contains(cell));
        }
    }

    private static void tests(String readme) {
        String[] files = new File("src/test/java").list((where, name) -> name.endsWith("Test.java"));
        for (String file : Arrays.asList(files)) {
            String test = file.replace(".java", "");
            CHECK.holds("the table has " + test, readme.contains("| `" + test + "` |"));
        }
    }
}
