import java.io.IOException;
import java.net.URL;
import java.net.URLClassLoader;
import java.nio.file.Files;
import java.nio.file.Path;
import java.util.ArrayList;
import java.util.List;
import java.util.regex.Matcher;
import java.util.regex.Pattern;
import java.util.stream.Stream;
import javax.tools.ToolProvider;

/** README.md: its example answers what its comments say, and its table names every test. */
public final class ReadmeTest {
    private static final Pattern EXAMPLE = Pattern.compile("```java\n(.*?)```", Pattern.DOTALL);
    private static final Pattern ANSWERED = Pattern.compile("(lights\\..*); +// (\\d+|true|false|'.').*");
    private static final Check CHECK = new Check("ReadmeTest");

    public static void main(String[] args) throws IOException, ReflectiveOperationException {
        String page = Files.readString(Path.of("README.md"));
        example(page);
        table(page);
        CHECK.end();
    }

    private static void example(String page) throws IOException, ReflectiveOperationException {
        Matcher example = EXAMPLE.matcher(page);
        CHECK.yes("an example", example.find());
        List<String> due = new ArrayList<>();
        Object got = run(asMethod(example.group(1), due));
        CHECK.yes("answers in the example", !due.isEmpty());
        CHECK.equal("the example", String.valueOf(got), due.toString());
    }

    /** The example as a method that answers a list of what its calls answered; what is due is put into the other. */
    private static String asMethod(String example, List<String> due) {
        StringBuilder source = new StringBuilder("public class Example { public static Object run() {\n");
        source.append("java.util.List<Object> got = new java.util.ArrayList<>();\n");
        for (String line : example.split("\n")) {
            Matcher answered = ANSWERED.matcher(line);
            if (answered.matches()) {
                due.add(answered.group(2).replace("'", ""));
                source.append("got.add(").append(answered.group(1)).append(");\n");
            } else {
                source.append(line).append('\n');
            }
        }
        return source.append("return got; } }\n").toString();
    }

    private static Object run(String source) throws IOException, ReflectiveOperationException {
        Path folder = Files.createTempDirectory("readme");
        Path file = folder.resolve("Example.java");
        Files.writeString(file, source);
        int refused = ToolProvider.getSystemJavaCompiler().run(null, null, null, "-cp",
                System.getProperty("java.class.path"), "-d", folder.toString(), file.toString());
        CHECK.equal("the compiler", refused, 0);
        try (URLClassLoader loader = new URLClassLoader(new URL[] {folder.toUri().toURL()})) {
            return loader.loadClass("Example").getMethod("run").invoke(null);
        } finally {
            Files.delete(folder.resolve("Example.class"));
            Files.delete(file);
            Files.delete(folder);
        }
    }

    private static void table(String page) throws IOException {
        try (Stream<Path> files = Files.list(Path.of("src/test/java"))) {
            for (Path file : files.toList()) {
                String name = file.getFileName().toString().replace(".java", "");
                boolean test = name.endsWith("Test");
                CHECK.yes(name + " in the table", !test || page.contains("\n| `" + name + "` |"));
            }
        }
    }
}
