import java.io.ByteArrayOutputStream;
import java.io.IOException;
import java.io.PrintStream;
import java.lang.reflect.Method;
import java.lang.reflect.Modifier;
import java.net.URL;
import java.net.URLClassLoader;
import java.nio.charset.StandardCharsets;
import java.nio.file.Files;
import java.nio.file.Path;
import java.util.stream.Stream;
import javax.tools.ToolProvider;

/** README.md: its example is compiled and run, and every call of the face is told of. */
final class ReadmeTest extends TestBase {
    public static void main(String[] args) throws Exception {
        String readme = Files.readString(Path.of(args[2]));
        testCalls(readme);
        testExample(readme);
        close();
    }

    private static void testCalls(String readme) {
        due("README tells how an object is made", readme.contains("`new TrialStair()`") ? 1 : 0, 1);
        for (Method method : TrialStair.class.getDeclaredMethods()) {
            if (Modifier.isPublic(method.getModifiers())) {
                String call = "(?s).*\\n\\| `" + method.getName() + "\\((\\w+(, \\w+){" + (method.getParameterCount() - 1) + "})\\)`.*";
                String plain = "\n| `" + method.getName() + "()`";
                boolean told = method.getParameterCount() == 0 ? readme.contains(plain) : readme.matches(call);
                due("README tells of " + method.getName(), told ? 1 : 0, 1);
            }
        }
    }

    private static String blockBehind(String readme, String fence, int from) {
        int begin = readme.indexOf("```" + fence + "\n", from);
        int end = readme.indexOf("```\n", begin + 3);
        return begin < 0 || end < 0 ? "" : readme.substring(begin + fence.length() + 4, end);
    }

    private static void testExample(String readme) throws Exception {
        String example = blockBehind(readme, "java", 0);
        String printed = blockBehind(readme, "text", readme.indexOf("\nprints\n"));
        due("README has an example, and what it prints", example.isEmpty() || printed.isEmpty() ? 0 : 1, 1);
        Path built = Files.createTempDirectory("readme");
        try {
            Path file = Files.writeString(built.resolve("Example.java"), example);
            int compiled = ToolProvider.getSystemJavaCompiler().run(null, null, null,
                "-cp", System.getProperty("java.class.path"), "-d", built.toString(), file.toString());
            due("the example compiles", compiled, 0);
            String got = compiled == 0 ? outputOf(built) : "";
            due("the example prints what README tells, not " + got, got.equals(printed) ? 1 : 0, 1);
        } finally {
            remove(built);
        }
    }

    private static String outputOf(Path built) throws Exception {
        PrintStream before = System.out;
        ByteArrayOutputStream bytes = new ByteArrayOutputStream();
        try (URLClassLoader loader = new URLClassLoader(new URL[] {built.toUri().toURL()})) {
            System.setOut(new PrintStream(bytes, true, StandardCharsets.UTF_8));
            loader.loadClass("Example").getMethod("main", String[].class).invoke(null, (Object) new String[0]);
        } finally {
            System.setOut(before);
        }
        return bytes.toString(StandardCharsets.UTF_8).replace(System.lineSeparator(), "\n");
    }

    private static void remove(Path directory) throws IOException {
        try (Stream<Path> files = Files.list(directory)) {
            for (Path file : files.toList()) {
                Files.delete(file);
            }
        }
        Files.delete(directory);
    }
}
