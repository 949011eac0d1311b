import java.io.ByteArrayOutputStream;
import java.io.IOException;
import java.io.PrintStream;
import java.lang.reflect.Method;
import java.lang.reflect.Modifier;
import java.net.URL;
import java.net.URLClassLoader;
import java.nio.file.Files;
import java.nio.file.Path;
import javax.tools.ToolProvider;

/** What README.md says of the use of the class is so: its program is compiled and run as it stands there. */
public final class ReadmeTest {
    private static final Path BUILD = Path.of("build", "readme");

    public static void main(String[] args) throws IOException, ReflectiveOperationException {
        String readme = Files.readString(Path.of("README.md"));
        Checks.due("what the example prints", printed(block(readme, "java")), block(readme, "text"));
        for (Method method : BrokerTree.class.getDeclaredMethods()) {
            if (Modifier.isPublic(method.getModifiers())) {
                Checks.due("README names " + method.getName(), readme.contains("| `" + method.getName() + "("), true);
            }
        }
        Checks.due("README says how to run the tests", readme.contains(".ci/run"), true);
        dueTestsNamed(readme);
        Checks.end("ReadmeTest");
    }

    private static String block(String readme, String language) {
        String fence = "```" + language + "\n";
        int start = readme.indexOf(fence) + fence.length();
        return readme.substring(start, readme.indexOf("```", start));
    }

    private static String printed(String program) throws IOException, ReflectiveOperationException {
        Files.createDirectories(BUILD);
        Path source = BUILD.resolve("Example.java");
        Files.writeString(source, program);
        int compiled = ToolProvider.getSystemJavaCompiler().run(null, null, null, "-cp", System.getProperty("java.class.path"),
                "-d", BUILD.toString(), source.toString());
        Checks.due("the example is compiled", compiled, 0);
        ByteArrayOutputStream bytes = new ByteArrayOutputStream();
        PrintStream before = System.out;
        try (URLClassLoader loader = new URLClassLoader(new URL[] {BUILD.toUri().toURL()});
                PrintStream out = new PrintStream(bytes)) {
            Method main = loader.loadClass("Example").getMethod("main", String[].class);
            System.setOut(out);
            main.invoke(null, (Object) new String[0]);
        } finally {
            System.setOut(before);
        }
        return bytes.toString().replace("\r", "");
    }

    private static void dueTestsNamed(String readme) throws IOException {
        try (var files = Files.list(Path.of("src", "test", "java"))) {
            files.map(file -> file.getFileName().toString().replace(".java", ""))
                    .forEach(name -> Checks.due("README names " + name, readme.contains("`" + name + "`"), true));
        }
    }
}
