import java.io.ByteArrayOutputStream;
import java.io.IOException;
import java.io.PrintStream;
import java.lang.reflect.Method;
import java.lang.reflect.Modifier;
import java.net.URL;
import java.net.URLClassLoader;
import java.nio.file.DirectoryStream;
import java.nio.file.Files;
import java.nio.file.Path;
import java.util.ArrayList;
import java.util.List;
import javax.tools.JavaCompiler;
import javax.tools.ToolProvider;

/** README.md tells the truth: its example prints what it says, and its table names all tests. */
public final class ReadmeTest {
    private static final Path README = Path.of("README.md");
    private static final Path TESTS = Path.of("src", "test", "java");
    private static final Check CHECK = new Check("ReadmeTest");

    public static void main(String[] args) throws IOException, ReflectiveOperationException {
        List<String> example = example();
        CHECK.due("the example prints", said(example), () -> printed(example));
        tableNamesAllTests();
        everyCallIsNamed();
        CHECK.end();
    }

    private static List<String> example() throws IOException {
        List<String> lines = new ArrayList<>();
        boolean inside = false;
        for (String line : Files.readAllLines(README)) {
            if (inside && !line.equals("```")) {
                lines.add(line);
            }
            inside = line.equals("```java") || inside && !line.equals("```");
        }
        return lines;
    }

    /** What the comments behind the printing lines say, up to a colon. */
    private static List<String> said(List<String> example) {
        List<String> results = new ArrayList<>();
        for (String line : example) {
            if (line.contains("println(")) {
                results.add(line.substring(line.indexOf("//") + 2).split(":")[0].trim());
            }
        }
        return results;
    }

    private static List<String> printed(List<String> example) {
        PrintStream before = System.out;
        ByteArrayOutputStream bytes = new ByteArrayOutputStream();
        try {
            Path directory = compiled(example);
            System.setOut(new PrintStream(bytes, true));
            run(directory);
        } catch (IOException | ReflectiveOperationException failure) {
            return List.of(failure.toString());
        } finally {
            System.setOut(before);
        }
        return List.of(bytes.toString().split("\\R"));
    }

    private static Path compiled(List<String> example) throws IOException {
        Path directory = Files.createTempDirectory("readme");
        Path file = directory.resolve("Example.java");
        Files.write(file, example);
        JavaCompiler compiler = ToolProvider.getSystemJavaCompiler();
        String classes = System.getProperty("java.class.path");
        int code = compiler.run(null, null, null, "-cp", classes, "-d", directory.toString(), file.toString());
        if (code != 0) {
            throw new IOException("the example does not compile");
        }
        return directory;
    }

    private static void run(Path directory) throws IOException, ReflectiveOperationException {
        URL[] places = {directory.toUri().toURL()};
        try (URLClassLoader loader = new URLClassLoader(places)) {
            Method main = loader.loadClass("Example").getMethod("main", String[].class);
            main.invoke(null, (Object) new String[0]);
        }
        Files.delete(directory.resolve("Example.java"));
        Files.delete(directory.resolve("Example.class"));
        Files.delete(directory);
    }

    private static void tableNamesAllTests() throws IOException {
        String text = Files.readString(README);
        try (DirectoryStream<Path> files = Files.newDirectoryStream(TESTS, "*Test.java")) {
            for (Path file : files) {
                String name = file.getFileName().toString().replace(".java", "");
                CHECK.due(name + " is in the table", true, () -> text.contains("| " + name + " |"));
            }
        }
    }

    private static void everyCallIsNamed() throws IOException {
        String text = Files.readString(README);
        for (Method method : FlowNetwork.class.getDeclaredMethods()) {
            if (Modifier.isPublic(method.getModifiers())) {
                String name = method.getName();
                CHECK.due(name + " is told", true, () -> text.contains("`" + name + "("));
            }
        }
    }
}
