import java.io.ByteArrayOutputStream;
import java.io.IOException;
import java.io.PrintStream;
import java.lang.reflect.Method;
import java.lang.reflect.Modifier;
import java.net.URL;
import java.net.URLClassLoader;
import java.nio.file.Files;
import java.nio.file.Path;
import java.util.ArrayList;
import java.util.List;
import java.util.regex.Matcher;
import java.util.regex.Pattern;
import javax.tools.ToolProvider;

/** The example of README.md answers what is told beside its calls, and README.md tells of every call. */
public final class ReadmeTest {
    private static final Check CHECK = new Check();
    private static final Path FOLDER = Path.of("build", "readme");

    public static void main(String[] args) throws IOException, ReflectiveOperationException {
        String readme = Files.readString(Path.of("README.md"));
        every(readme);
        Matcher block = Pattern.compile("(?s)```java\n(.*?)```").matcher(readme);
        boolean isThere = block.find();
        CHECK.due("an example in README.md", isThere ? 1 : 0, 1);
        if (isThere) {
            example(block.group(1));
        }
        CHECK.end();
    }

    /** Each call is told with as many arguments as it has. */
    private static void every(String readme) {
        for (Method method : TermMarks.class.getDeclaredMethods()) {
            if (Modifier.isPublic(method.getModifiers())) {
                int arguments = method.getParameterCount();
                String row = arguments == 0 ? "" : "\\w+(, \\w+){" + (arguments - 1) + "}";
                Pattern told = Pattern.compile("\\| `" + method.getName() + "\\(" + row + "\\)` \\|");
                CHECK.due("README.md tells of " + method.getName(), told.matcher(readme).find() ? 1 : 0, 1);
            }
        }
    }

    private static void example(String source) throws IOException, ReflectiveOperationException {
        Path file = FOLDER.resolve("Example.java");
        Files.createDirectories(FOLDER);
        Files.writeString(file, source);
        int failed = ToolProvider.getSystemJavaCompiler().run(null, null, null, "-Xlint:all",
                "-cp", System.getProperty("java.class.path"), "-d", FOLDER.toString(), file.toString());
        CHECK.due("compiling the example", failed, 0);
        if (failed == 0) {
            CHECK.same("the example", printed().toString(), due(source).toString());
        }
    }

    /** What the example prints, a line each. */
    private static List<String> printed() throws IOException, ReflectiveOperationException {
        PrintStream out = System.out;
        ByteArrayOutputStream bytes = new ByteArrayOutputStream();
        URL[] folder = {FOLDER.toUri().toURL()};
        try (URLClassLoader loader = new URLClassLoader(folder, ReadmeTest.class.getClassLoader())) {
            System.setOut(new PrintStream(bytes, true));
            loader.loadClass("Example").getMethod("main", String[].class).invoke(null, (Object) new String[0]);
        } finally {
            System.setOut(out);
        }
        return List.of(bytes.toString().trim().split("\\s+"));
    }

    /** The number that is told beside each line that prints. */
    private static List<String> due(String source) {
        List<String> answers = new ArrayList<>();
        for (String line : source.split("\n")) {
            Matcher told = Pattern.compile("println.*// (-?\\d+)").matcher(line);
            if (told.find()) {
                answers.add(told.group(1));
            } else {
                CHECK.due("no answer beside" + line, line.contains("println") ? 1 : 0, 0);
            }
        }
        return answers;
    }
}
