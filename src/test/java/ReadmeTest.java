import java.io.ByteArrayOutputStream;
import java.io.PrintStream;
import java.lang.reflect.Method;
import java.lang.reflect.Modifier;
import java.net.URL;
import java.net.URLClassLoader;
import java.nio.charset.StandardCharsets;
import java.nio.file.Files;
import java.nio.file.Path;
import java.util.stream.Stream;
import javax.tools.ToolProvider;

/** README.md says how the class is used: its example runs and prints what the page says. */
public final class ReadmeTest {
    private static final Due DUE = new Due();

    public static void main(String[] args) throws Exception {
        String page = Files.readString(Path.of("README.md"));
        example(block(page, "java"), block(page, "text"));
        for (Method method : SlackRace.class.getDeclaredMethods()) {
            if (Modifier.isPublic(method.getModifiers())) {
                isSo(method.getName() + " stands in README.md",
                        page.contains("`" + method.getName() + "("));
            }
        }
        try (Stream<Path> tests = Files.list(Path.of("src/test/java"))) {
            tests.map(file -> file.getFileName().toString()).filter(n -> n.endsWith("Test.java"))
                    .map(name -> name.replace(".java", ""))
                    .forEach(name -> isSo(name + " stands in README.md",
                            page.contains("| `" + name + "` |")));
        }
        isSo("how tests are run", page.contains("\n    .ci/run\n"));
        DUE.close("ReadmeTest");
    }

    private static void isSo(String what, boolean so) {
        DUE.is(what, so ? 1 : 0, 1);
    }

    /** What stands in the page's first block of a language. */
    private static String block(String page, String language) {
        String head = "```" + language + "\n";
        int from = page.indexOf(head);
        int to = page.indexOf("```\n", from + head.length());
        return from < 0 || to < 0 ? "" : page.substring(from + head.length(), to);
    }

    private static void example(String source, String due) throws Exception {
        Path dir = Files.createTempDirectory("example");
        Path file = dir.resolve("Example.java");
        Files.writeString(file, source);
        int failed = ToolProvider.getSystemJavaCompiler().run(null, null, null, "-proc:none",
                "-cp", System.getProperty("java.class.path"), "-d", dir.toString(),
                file.toString());
        isSo("the example compiles", failed == 0);
        if (failed == 0) {
            String printed = run(dir);
            isSo("the example prints\n" + printed, !due.isEmpty() && printed.equals(due));
        }
        for (String made : new String[] {"Example.class", "Example.java", ""}) {
            Files.deleteIfExists(dir.resolve(made));
        }
    }

    private static String run(Path dir) throws Exception {
        PrintStream before = System.out;
        ByteArrayOutputStream bytes = new ByteArrayOutputStream();
        try (URLClassLoader loader = new URLClassLoader(new URL[] {dir.toUri().toURL()})) {
            System.setOut(new PrintStream(bytes, true, StandardCharsets.UTF_8));
            loader.loadClass("Example").getMethod("main", String[].class)
                    .invoke(null, (Object) new String[0]);
        } finally {
            System.setOut(before);
        }
        return bytes.toString(StandardCharsets.UTF_8).replace("\r\n", "\n");
    }
}
