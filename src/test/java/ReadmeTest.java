import java.io.ByteArrayOutputStream;
import java.io.IOException;
import java.io.PrintStream;
import java.lang.reflect.Method;
import java.lang.reflect.Modifier;
import java.net.URL;
import java.net.URLClassLoader;
import java.nio.charset.StandardCharsets;
import java.nio.file.Files;
import java.nio.file.Path;
import javax.tools.ToolProvider;

/** README.md shows what is so: its example compiles and prints what stands there, and its table names every call. */
public final class ReadmeTest {
    public static void main(String[] args) throws IOException, ReflectiveOperationException {
        String readme = Files.readString(Path.of("README.md"));
        String printed = runExample(block(readme, "java"));
        String promised = block(readme, "text");
        if (!printed.equals(promised)) {
            System.out.println("the example prints\n" + printed + "but README.md says\n" + promised);
        }
        Checks.due("the example prints what README.md says", printed.equals(promised) ? 1 : 0, 1);
        tableNamesEveryCall(readme);
        Checks.finish("ReadmeTest");
    }

    private static String block(String readme, String kind) {
        String fence = "```" + kind + "\n";
        int from = readme.indexOf(fence);
        int to = readme.indexOf("\n```", from + 1);
        Checks.due("README.md has a block of " + kind, from >= 0 && to > from ? 1 : 0, 1);
        return from >= 0 && to > from ? readme.substring(from + fence.length(), to + 1) : "";
    }

    private static String runExample(String source) throws IOException, ReflectiveOperationException {
        Path dir = Files.createTempDirectory("readme");
        Path file = dir.resolve("Example.java");
        Path compiled = dir.resolve("Example.class");
        try {
            Files.writeString(file, source);
            int failed = ToolProvider.getSystemJavaCompiler().run(null, null, null, "-d", dir.toString(), "-cp",
                    System.getProperty("java.class.path"), file.toString());
            Checks.due("the example compiles", failed, 0);
            return failed == 0 ? outputOf(dir) : "";
        } finally {
            Files.deleteIfExists(compiled);
            Files.deleteIfExists(file);
            Files.deleteIfExists(dir);
        }
    }

    private static String outputOf(Path dir) throws IOException, ReflectiveOperationException {
        ByteArrayOutputStream bytes = new ByteArrayOutputStream();
        PrintStream before = System.out;
        try (URLClassLoader loader = new URLClassLoader(new URL[] {dir.toUri().toURL()})) {
            System.setOut(new PrintStream(bytes, true, StandardCharsets.UTF_8));
            loader.loadClass("Example").getMethod("main", String[].class).invoke(null, (Object) new String[0]);
        } finally {
            System.setOut(before);
        }
        return bytes.toString(StandardCharsets.UTF_8).replace(System.lineSeparator(), "\n");
    }

    private static void tableNamesEveryCall(String readme) {
        StringBuilder table = new StringBuilder();
        for (String line : readme.split("\n")) {
            if (line.startsWith("| ")) {
                table.append(line);
            }
        }
        for (Method m : ApartBench.class.getDeclaredMethods()) {
            if (Modifier.isPublic(m.getModifiers())) {
                Checks.due("README.md's table names " + m.getName(), table.indexOf("`" + m.getName() + "`") >= 0 ? 1 : 0,
                        1);
            }
        }
    }
}
