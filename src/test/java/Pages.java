import java.io.IOException;
import java.nio.file.Files;
import java.nio.file.Path;
import java.util.ArrayList;
import java.util.List;
import java.util.regex.Matcher;
import java.util.regex.Pattern;

/** The texts that the class is held against: the document, and the project's own page. */
final class Pages {
    private static final Pattern JAVA_BLOCK = Pattern.compile("```java\n(.*?)```", Pattern.DOTALL);
    private static final Pattern FACE_LINE = Pattern.compile("public (\\w+ \\w+\\([^)]*\\)|\\w+\\(\\))( throws [^;]*)?;");

    private Pages() {
    }

    static String document() throws IOException {
        return Files.readString(Path.of("..", "shared", "DOC.md"));
    }

    static String readme() throws IOException {
        return Files.readString(Path.of("README.md"));
    }

    static List<String> javaBlocks(String page) {
        List<String> blocks = new ArrayList<>();
        Matcher block = JAVA_BLOCK.matcher(page);
        while (block.find()) {
            blocks.add(block.group(1));
        }
        return blocks;
    }

    /** The constructor and the methods of the document's face, each with what it throws. */
    static List<String[]> face() throws IOException {
        List<String[]> face = new ArrayList<>();
        Matcher line = FACE_LINE.matcher(javaBlocks(document()).get(0));
        while (line.find()) {
            face.add(new String[] {line.group(1), line.group(2) == null ? "" : line.group(2)});
        }
        return face;
    }
}
