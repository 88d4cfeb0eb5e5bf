import com.sun.source.tree.CompilationUnitTree;
import com.sun.source.util.JavacTask;
import com.sun.source.util.Trees;
import java.io.File;
import java.io.IOException;
import java.nio.file.Files;
import java.nio.file.Path;
import java.util.List;
import java.util.stream.Collectors;
import java.util.stream.Stream;
import javax.tools.JavaCompiler;
import javax.tools.StandardJavaFileManager;
import javax.tools.ToolProvider;

/** The program is one file and keeps to the rules of LANGUAGE.md, as far as its text shows it. */
public final class LanguageTest {
    private static final Path SOURCES = Path.of("src", "main", "java");
    private static final Path PROGRAM = SOURCES.resolve("EscapeMill.java");

    public static void main(String[] args) throws IOException {
        Check check = new Check("LanguageTest");
        check.sentence("The program is one file, src/main/java/EscapeMill.java");
        try (Stream<Path> all = Files.walk(SOURCES)) {
            List<Path> files = all.filter(Files::isRegularFile).collect(Collectors.toList());
            check.holds("files are " + files, files.equals(List.of(PROGRAM)));
        }
        check.sentence("LANGUAGE.md, rule 3: texts hold characters 0 to 255 alone");
        check.holds("plain characters", Files.readString(PROGRAM).chars().allMatch(c -> c < 128));
        JavaCompiler compiler = ToolProvider.getSystemJavaCompiler();
        try (StandardJavaFileManager manager = compiler.getStandardFileManager(null, null, null)) {
            JavacTask task = (JavacTask) compiler.getTask(null, manager, null, List.of("-proc:none"), null,
                    manager.getJavaFileObjects(new File(PROGRAM.toString())));
            CompilationUnitTree unit = task.parse().iterator().next();
            task.analyze();
            new LanguageRules(check, Trees.instance(task), unit).look();
        }
        check.end();
    }
}
