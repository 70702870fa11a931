import java.io.ByteArrayOutputStream;
import java.io.IOException;
import java.io.PrintStream;
import java.net.URL;
import java.net.URLClassLoader;
import java.nio.charset.StandardCharsets;
import java.nio.file.Files;
import java.nio.file.Path;
import javax.tools.JavaCompiler;
import javax.tools.ToolProvider;

/** The program of README.md, compiled and run as it stands there, must print what README.md says. */
public final class ReadmeTest {
    public static void main(String[] args) throws Exception {
        String readme = Files.readString(Path.of("README.md"), StandardCharsets.UTF_8);
        String program = block(readme, "```java\n");
        Check.due("README.md has a program", program.isEmpty(), false);
        Path place = Files.createTempDirectory("readme");
        try {
            boolean compiled = !program.isEmpty() && compile(program, place);
            Check.due("the program of README.md compiles", compiled, true);
            Check.dueText("the program of README.md", compiled ? outputOf(place) : "", block(readme, "```text\n"));
        } finally {
            delete(place);
        }
        Check.end();
    }

    private static String block(String readme, String fence) {
        int start = readme.indexOf(fence);
        int end = start < 0 ? -1 : readme.indexOf("```", start + fence.length());
        return end < 0 ? "" : readme.substring(start + fence.length(), end);
    }

    private static boolean compile(String program, Path place) throws IOException {
        Path file = place.resolve("Example.java");
        Files.writeString(file, program, StandardCharsets.UTF_8);
        JavaCompiler compiler = ToolProvider.getSystemJavaCompiler();
        return compiler != null && compiler.run(null, null, null, "-encoding", "UTF-8", "-cp",
            System.getProperty("java.class.path"), "-d", place.toString(), file.toString()) == 0;
    }

    private static String outputOf(Path place) throws Exception {
        PrintStream console = System.out;
        ByteArrayOutputStream printed = new ByteArrayOutputStream();
        try (URLClassLoader loader = new URLClassLoader(new URL[] {place.toUri().toURL()})) {
            System.setOut(new PrintStream(printed, true, StandardCharsets.UTF_8));
            loader.loadClass("Example").getMethod("main", String[].class).invoke(null, (Object) new String[0]);
        } finally {
            System.setOut(console);
        }
        return printed.toString(StandardCharsets.UTF_8).replace("\r\n", "\n");
    }

    private static void delete(Path place) throws IOException {
        for (String name : new String[] {"Example.java", "Example.class"}) {
            Files.deleteIfExists(place.resolve(name));
        }
        Files.deleteIfExists(place);
    }
}
