import java.io.ByteArrayOutputStream;
import java.io.IOException;
import java.io.PrintStream;
import java.net.URL;
import java.net.URLClassLoader;
import java.nio.charset.StandardCharsets;
import java.nio.file.Files;
import java.nio.file.Path;
import javax.tools.ToolProvider;

/** The program in README.md compiles, and prints what README.md tells. */
public final class ReadmeTests {
    private static final String NAME = "Regatta";

    private ReadmeTests() {
    }

    public static void main(String[] args) throws IOException, ReflectiveOperationException {
        String readme = Files.readString(Path.of("README.md"));
        String[] due = block(readme, "```text\n").split("\n");
        String[] got = printed(block(readme, "```java\n")).split("\\R");
        Check.same("lines", got.length, due.length);
        for (int k = 0; k < Math.min(got.length, due.length); k++) {
            Check.that("README.md tells: " + due[k] + ", printed is: " + got[k], got[k].equals(due[k]));
        }
        for (var method : EvenOars.class.getMethods()) {
            boolean own = method.getDeclaringClass() == EvenOars.class;
            Check.that("README.md names " + method, !own || readme.contains("`" + method.getName() + "`"));
        }
        Check.done("ReadmeTests");
    }

    private static String block(String readme, String fence) {
        int start = readme.indexOf(fence) + fence.length();
        int end = readme.indexOf("```", start);
        Check.that("a block " + fence.strip(), readme.contains(fence) && end > start);
        return readme.substring(start, end);
    }

    private static String printed(String program) throws IOException, ReflectiveOperationException {
        Path place = Files.createTempDirectory("readme");
        Path file = Files.writeString(place.resolve(NAME + ".java"), program);
        Path made = place.resolve(NAME + ".class");
        PrintStream out = System.out;
        ByteArrayOutputStream seen = new ByteArrayOutputStream();
        try (URLClassLoader loader = new URLClassLoader(new URL[] {place.toUri().toURL()})) {
            int result = ToolProvider.getSystemJavaCompiler().run(null, null, null,
                    "-cp", System.getProperty("java.class.path"), "-d", place.toString(), file.toString());
            Check.same("javac", result, 0);
            System.setOut(new PrintStream(seen, true, StandardCharsets.UTF_8));
            Class.forName(NAME, true, loader).getMethod("main", String[].class).invoke(null, (Object) new String[0]);
        } finally {
            System.setOut(out);
            Files.deleteIfExists(made);
            Files.delete(file);
            Files.delete(place);
        }
        return seen.toString(StandardCharsets.UTF_8);
    }
}
