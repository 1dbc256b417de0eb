import java.io.IOException;
import java.io.OutputStream;
import java.io.PrintStream;
import java.net.MalformedURLException;
import java.net.URL;
import java.net.URLClassLoader;
import java.nio.file.Files;
import java.nio.file.Path;
import java.util.ArrayList;
import java.util.List;
import java.util.regex.Matcher;
import java.util.regex.Pattern;
import javax.tools.ToolProvider;

/** No test asks an object more than 512 times: what later calls answer is free. */
public final class CallsTests {
    private static final int MOST_CALLS = 512;
    private static final int CALLS_OF_FACE = 40;
    private static final String[] TESTS = {
        "PromiseTests", "EdgeTests", "FaultTests", "QuestionTests", "AgainstSlowTests", "RoomTests",
    };
    private static final Pattern PUBLIC_CALL =
            Pattern.compile("^    public (?:int|long|boolean) \\w+\\(.*\\) \\{$", Pattern.MULTILINE);
    private static final String COUNTER = "\n    static int mostCalls = 0;\n    private int calls = 0;\n"
            + "    private void countCall() { calls++; mostCalls = Math.max(mostCalls, calls); }\n";

    private CallsTests() {
    }

    public static void main(String[] args) throws IOException, ReflectiveOperationException {
        String source = Files.readString(
                Path.of(System.getProperty("even.oars.source", "src/main/java/EvenOars.java")));
        Path place = Files.createTempDirectory("counted");
        try {
            compile(place, counted(source));
            for (String test : TESTS) {
                int most = mostCallsIn(test, place);
                Check.that(test + " asks an object " + most + " times", most > 0 && most <= MOST_CALLS);
            }
        } finally {
            remove(place);
        }
        Check.done("CallsTests");
    }

    /** The source with a counter in each public method. */
    private static String counted(String source) {
        Matcher call = PUBLIC_CALL.matcher(source);
        StringBuilder text = new StringBuilder();
        int found = 0;
        while (call.find()) {
            call.appendReplacement(text, Matcher.quoteReplacement(call.group() + " countCall();"));
            found++;
        }
        call.appendTail(text);
        Check.same("calls of the face", found, CALLS_OF_FACE);
        return text.insert(text.lastIndexOf("}"), COUNTER).toString();
    }

    private static void compile(Path place, String source) throws IOException {
        Path file = Files.writeString(place.resolve("EvenOars.java"), source);
        int result = ToolProvider.getSystemJavaCompiler().run(null, null, null, "-d", place.toString(), file.toString());
        Check.same("javac with counters", result, 0);
    }

    /** Runs a test once more, beside the class with counters. */
    private static int mostCallsIn(String test, Path place) throws IOException, ReflectiveOperationException {
        PrintStream out = System.out;
        System.setOut(new PrintStream(OutputStream.nullOutputStream()));
        try (URLClassLoader loader = new URLClassLoader(pathBehind(place), ClassLoader.getPlatformClassLoader())) {
            Class.forName(test, true, loader).getMethod("main", String[].class).invoke(null, (Object) new String[0]);
            var most = Class.forName("EvenOars", true, loader).getDeclaredField("mostCalls");
            most.setAccessible(true);
            return most.getInt(null);
        } finally {
            System.setOut(out);
        }
    }

    private static URL[] pathBehind(Path place) throws MalformedURLException {
        List<URL> urls = new ArrayList<>();
        urls.add(place.toUri().toURL());
        for (String entry : System.getProperty("java.class.path").split(System.getProperty("path.separator"))) {
            urls.add(Path.of(entry).toUri().toURL());
        }
        return urls.toArray(new URL[0]);
    }

    private static void remove(Path place) throws IOException {
        try (var files = Files.list(place)) {
            for (Path file : files.toList()) {
                Files.delete(file);
            }
        }
        Files.delete(place);
    }
}
