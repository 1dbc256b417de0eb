import java.io.IOException;
import java.lang.reflect.Constructor;
import java.lang.reflect.Field;
import java.lang.reflect.Method;
import java.lang.reflect.Modifier;
import java.nio.file.Files;
import java.nio.file.Path;
import java.util.ArrayList;
import java.util.Arrays;
import java.util.List;
import java.util.Set;
import java.util.TreeSet;
import java.util.regex.Matcher;
import java.util.regex.Pattern;

/** The rules of LANGUAGE.md that the class and its source can tell. */
public final class LanguageTests {
    private static final String[] FACE = {
        "int feed(int,int,int,int,int)", "boolean end(int)", "int text()", "int fault(int)", "int boat(int)",
        "int letter(int,int)", "int seat(int,int)", "int rower(int,int)", "long want(int)", "long swing(int,int)",
        "long off()", "int good()", "int lawful()", "long heading()", "boolean turn(int)", "boolean swap(int,int)",
        "int stroke(int)", "long row(int)", "boolean undo()", "boolean seed(int)", "long ways(int)",
        "int made(int,int)", "long doubled(int,int)", "int still(int,int)", "long nearest(int)", "long seated(int)",
        "int changes()", "long race(int)", "long stillest(int,int)", "long under(int,int)", "int fits()",
        "int strengths(int,int)", "int crooked()", "int heirs(int)", "long apart(int,boolean)", "long ask()",
        "int image()", "int octet(int)", "boolean on()", "int status(int)",
    };

    private LanguageTests() {
    }

    public static void main(String[] args) throws IOException {
        face();
        List<Class<?>> classes = new ArrayList<>();
        addAll(EvenOars.class, classes);
        Check.that("some twelve classes: " + classes.size(), classes.size() <= 12);
        Set<String> names = new TreeSet<>();
        for (String method : FACE) {
            names.add(method.substring(method.indexOf(' ') + 1, method.indexOf('(')));
        }
        for (Class<?> one : classes) {
            shape(one, names);
        }
        String path = System.getProperty("even.oars.source", "src/main/java/EvenOars.java");
        source(Files.readString(Path.of(path)));
        Check.done("LanguageTests");
    }

    private static void addAll(Class<?> one, List<Class<?>> classes) {
        classes.add(one);
        for (Class<?> inside : one.getDeclaredClasses()) {
            addAll(inside, classes);
        }
    }

    private static void face() {
        Check.same("NONE", EvenOars.NONE, -1);
        Check.same("NOTHING", EvenOars.NOTHING, -1000000000000000L);
        Check.that("public and final", EvenOars.class.getModifiers() == (Modifier.PUBLIC | Modifier.FINAL));
        Set<String> due = new TreeSet<>(Arrays.asList(FACE));
        Set<String> there = new TreeSet<>();
        for (Method method : EvenOars.class.getDeclaredMethods()) {
            if (!Modifier.isPrivate(method.getModifiers())) {
                StringBuilder told = new StringBuilder();
                for (Class<?> type : method.getParameterTypes()) {
                    told.append(told.length() == 0 ? "" : ",").append(type);
                }
                there.add(method.getReturnType() + " " + method.getName() + "(" + told + ")");
                Check.that("public alone: " + method, method.getModifiers() == Modifier.PUBLIC);
            }
        }
        Check.that("the face " + there, there.equals(due));
        Constructor<?>[] constructors = EvenOars.class.getDeclaredConstructors();
        Check.that("one constructor", constructors.length == 1 && constructors[0].getParameterCount() == 0);
        for (Field field : EvenOars.class.getDeclaredFields()) {
            boolean told = field.getName().equals("NONE") || field.getName().equals("NOTHING");
            Check.that("private: " + field, Modifier.isPrivate(field.getModifiers()) != told);
        }
    }

    private static void shape(Class<?> one, Set<String> face) {
        int modifiers = one.getModifiers();
        if (one != EvenOars.class) {
            Check.that("static: " + one, Modifier.isStatic(modifiers));
            Check.that("not public: " + one, !Modifier.isPublic(modifiers) && !Modifier.isProtected(modifiers));
        }
        int fields = 0;
        for (Field field : one.getDeclaredFields()) {
            if (Modifier.isStatic(field.getModifiers())) {
                Check.that("final: " + field, Modifier.isFinal(field.getModifiers()));
                Check.that("a constant: " + field, field.getType().isPrimitive() || field.getType() == String.class);
            } else {
                fields++;
            }
        }
        Check.that(fields + " fields in " + one, fields <= 20);
        for (Method method : one.getDeclaredMethods()) {
            Check.that("seven parameters: " + method, method.getParameterCount() <= 7);
            boolean own = one != EvenOars.class || Modifier.isPrivate(method.getModifiers());
            Check.that("a name of its own: " + method, !own || !face.contains(method.getName()));
            String name = method.getName();
            Check.that("no " + method, !name.equals("equals") && !name.equals("hashCode") && !name.equals("toString"));
        }
    }

    private static void source(String source) {
        String bare = source.replaceAll("(?s)/\\*.*?\\*/", "").replaceAll("//[^\n]*", "");
        for (String line : bare.split("\n")) {
            if (line.contains("\"")) {
                Check.that("no texts joined by +: " + line, !line.contains("\" +") && !line.contains("+ \""));
            }
        }
        bare = bare.replaceAll("\"[^\"]*\"", "\"\"").replaceAll("'.'", "' '");
        for (String word : new String[] {"throw", "throws", "try", "catch", "finally", "synchronized", "assert",
            "native", "volatile", "transient", "Object", "Exception", "Thread", "Random", "Optional", "var",
            "yield", "record", "protected"}) {
            Check.that("no " + word, !Pattern.compile("\\b" + word + "\\b").matcher(bare).find());
        }
        Check.that("no lambda, no arrow", !bare.contains("->") && !bare.contains("::"));
        Check.that("no package", !bare.contains("package "));
        Check.that("no static block", !Pattern.compile("static\\s*\\{").matcher(bare).find());
        Check.that("no generic type", !bare.contains("<>"));
        Check.that("no remainder of an unknown", !Pattern.compile("[/%] *[a-z]\\w*").matcher(divisors(bare)).find());
        Matcher imports = Pattern.compile("import ([\\w.]+);").matcher(bare);
        while (imports.find()) {
            Check.that("import of " + imports.group(1), imports.group(1).equals("java.util.Arrays"));
        }
        Set<String> library = Set.of("Math.abs", "Math.min", "Math.max", "Math.floorDiv", "Integer.bitCount",
                "System.arraycopy", "Arrays.fill");
        Matcher calls = Pattern.compile("\\b(Math|Integer|Long|System|Arrays|String|Character)\\.(\\w+)").matcher(bare);
        while (calls.find()) {
            Check.that("the library's " + calls.group(), library.contains(calls.group()));
        }
        methods(bare);
        for (int k = 0; k < source.length(); k++) {
            Check.that("signs 1 to 127", source.charAt(k) > 0 && source.charAt(k) < 128);
        }
    }

    /** Divisors that are tested right where they stand: this one may be there. */
    private static String divisors(String bare) {
        return bare.replace("arm == 0 ? 0 : plan.runLever(run, seat) / arm", "");
    }

    private static void methods(String bare) {
        String[] lines = bare.split("\n");
        int start = -1;
        for (int k = 0; k < lines.length; k++) {
            String line = lines[k];
            int indent = line.length() - line.stripLeading().length();
            if (start < 0 && (indent == 4 || indent == 8) && line.endsWith("{") && line.contains("(")
                    && !line.contains(" class ")) {
                start = k;
            } else if (start >= 0 && line.strip().equals("}")
                    && indent == lines[start].length() - lines[start].stripLeading().length()) {
                Check.that("some sixty lines: " + lines[start].strip(), k - start + 1 <= 60);
                start = -1;
            }
            Check.that("a line of 120 signs: " + line, line.length() <= 120);
        }
    }
}
