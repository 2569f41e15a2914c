import java.io.IOException;
import java.lang.reflect.InvocationTargetException;
import java.net.URL;
import java.net.URLClassLoader;
import java.nio.file.Files;
import java.nio.file.Path;
import java.util.function.BiConsumer;
import java.util.regex.Matcher;
import java.util.regex.Pattern;
import javax.tools.ToolProvider;

/** The example of README.md: each call whose answer it tells behind two strokes answers that. */
public final class ReadmeTest {
    private static final Pattern EXAMPLE = Pattern.compile("(?s)```java\n(.*?)```");
    private static final Pattern CALL = Pattern.compile("((?:int \\w+ = )?)(v\\.\\w+\\(.*?\\)); +// (-?\\d+): .*");

    private static int lines = 0;

    public static void main(String[] args) throws IOException, ReflectiveOperationException {
        Matcher example = EXAMPLE.matcher(Files.readString(Path.of("README.md")));
        Due.is("README.md has an example", example.find(), true);
        Path out = Files.createTempDirectory("readme");
        try {
            Path source = Files.writeString(out.resolve("Example.java"), asTest(example.group(1)));
            Due.is("the example's calls", lines, example.group(1).lines().count() - 1);
            runs(out, source);
        } finally {
            Files.deleteIfExists(out.resolve("Example.java"));
            Files.deleteIfExists(out.resolve("Example.class"));
            Files.deleteIfExists(out);
        }
        Due.end();
    }

    private static String asTest(String example) {
        StringBuilder code = new StringBuilder("public final class Example {\n");
        code.append("public static void run(java.util.function.BiConsumer<String, int[]> due) {\n");
        for (String line : example.split("\n")) {
            Matcher call = CALL.matcher(line);
            if (call.matches()) {
                String answer = "a" + lines;
                lines++;
                code.append("int ").append(answer).append(" = ").append(call.group(2)).append(";\n");
                code.append(call.group(1).isEmpty() ? "" : call.group(1) + answer + ";\n");
                code.append("due.accept(\"").append(call.group(2)).append("\", new int[] {").append(answer);
                code.append(", ").append(call.group(3)).append("});\n");
            } else {
                code.append(line).append('\n');
            }
        }
        return code.append("}\n}\n").toString();
    }

    private static void runs(Path out, Path source) throws IOException, ReflectiveOperationException {
        String classes = System.getProperty("java.class.path");
        int failed = ToolProvider.getSystemJavaCompiler().run(
                null, null, null, "-proc:none", "-cp", classes, "-d", out.toString(), source.toString());
        Due.is("the example can't be compiled", failed, 0);
        if (failed != 0) {
            return;
        }
        BiConsumer<String, int[]> due = (call, pair) -> Due.is(call, pair[0], pair[1]);
        URL[] place = {out.toUri().toURL()};
        try (URLClassLoader loader = new URLClassLoader(place, ReadmeTest.class.getClassLoader())) {
            loader.loadClass("Example").getMethod("run", BiConsumer.class).invoke(null, due);
        } catch (InvocationTargetException thrown) {
            Due.is("the example throws " + thrown.getCause(), true, false);
        }
    }
}
