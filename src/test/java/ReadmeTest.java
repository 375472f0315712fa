import java.io.ByteArrayOutputStream;
import java.io.IOException;
import java.io.PrintStream;
import java.lang.reflect.InvocationTargetException;
import java.lang.reflect.Method;
import java.lang.reflect.Modifier;
import java.net.URL;
import java.net.URLClassLoader;
import java.nio.charset.StandardCharsets;
import java.nio.file.DirectoryStream;
import java.nio.file.Files;
import java.nio.file.Path;
import java.util.Map;
import java.util.TreeMap;
import java.util.regex.Matcher;
import java.util.regex.Pattern;
import javax.tools.JavaCompiler;
import javax.tools.ToolProvider;

/** README.md: its example compiles and prints what README.md says, and its table of calls is that of the class. */
public final class ReadmeTest {
    /** A row of the table of calls: the name, the parameters, the mark of what is undoable, the exceptions. */
    private static final Pattern ROW =
            Pattern.compile("(?m)^\\| `(\\w+)\\(([^)]*)\\)`( \\*)? \\|[^|\\n]*\\|([^|\\n]*)\\|$");
    private static final Pattern EXCEPTION = Pattern.compile("\\w+Exception");
    private static final String UNDOABLE = "addCourier drop give parse run setArea setGrace";

    private static String readme;

    private ReadmeTest() {
    }

    public static void main(String[] args) throws Exception {
        readme = Files.readString(Path.of("README.md"));
        example();
        Check.test("README.md: every method, its parameters and exceptions", ReadmeTest::calls);
        Check.test("README.md: which calls are undoable", ReadmeTest::undoable);
        Check.end();
    }

    private static String block(String kind) {
        Matcher found = Pattern.compile("(?ms)^```" + kind + "\\n(.*?)^```$").matcher(readme);
        return found.find() ? found.group(1) : "no block of " + kind;
    }

    private static void example() throws Exception {
        Path folder = Files.createTempDirectory("readme");
        Path source = folder.resolve("Example.java");
        try {
            Files.writeString(source, block("java"));
            JavaCompiler compiler = ToolProvider.getSystemJavaCompiler();
            int refused = compiler == null ? -1 : compiler.run(null, null, null, "-Xlint:all", "-d", folder.toString(),
                    "-cp", System.getProperty("java.class.path"), source.toString());
            Check.is("README.md: compiling the example", refused, 0);
            if (refused == 0) {
                Check.is("README.md: what the example prints", printed(folder), block("text"));
            }
        } finally {
            remove(folder);
        }
    }

    private static void remove(Path folder) throws IOException {
        try (DirectoryStream<Path> files = Files.newDirectoryStream(folder)) {
            for (Path file : files) {
                Files.delete(file);
            }
        }
        Files.delete(folder);
    }

    private static String printed(Path folder) throws IOException, ReflectiveOperationException {
        ByteArrayOutputStream bytes = new ByteArrayOutputStream();
        PrintStream usual = System.out;
        try (URLClassLoader loader = new URLClassLoader(new URL[] {folder.toUri().toURL()});
                PrintStream kept = new PrintStream(bytes, true, StandardCharsets.UTF_8)) {
            Method main = loader.loadClass("Example").getMethod("main", String[].class);
            System.setOut(kept);
            main.invoke(null, (Object) new String[0]);
        } catch (InvocationTargetException e) {
            return "ended by " + e.getCause();
        } finally {
            System.setOut(usual);
        }
        return bytes.toString(StandardCharsets.UTF_8).replace(System.lineSeparator(), "\n");
    }

    private static void calls() {
        Map<String, String> due = new TreeMap<>();
        for (Method method : CourierRelay.class.getDeclaredMethods()) {
            if (Modifier.isPublic(method.getModifiers())) {
                StringBuilder all = new StringBuilder().append(method.getParameterCount()).append(" parameters");
                for (Class<?> one : method.getExceptionTypes()) {
                    all.append(' ').append(one.getSimpleName());
                }
                due.put(method.getName(), all.toString());
            }
        }
        Map<String, String> told = new TreeMap<>();
        Matcher row = ROW.matcher(readme);
        while (row.find()) {
            int parameters = row.group(2).isEmpty() ? 0 : row.group(2).split(",").length;
            StringBuilder all = new StringBuilder().append(parameters).append(" parameters");
            Matcher exception = EXCEPTION.matcher(row.group(4));
            while (exception.find()) {
                all.append(' ').append(exception.group());
            }
            told.put(row.group(1), all.toString());
        }
        Check.is("the methods", told.keySet(), due.keySet());
        for (String name : due.keySet()) {
            Check.is(name, String.valueOf(told.get(name)), due.get(name));
        }
    }

    private static void undoable() {
        Map<String, Boolean> marked = new TreeMap<>();
        Matcher row = ROW.matcher(readme);
        while (row.find()) {
            if (row.group(3) != null) {
                marked.put(row.group(1), true);
            }
        }
        Check.is("the calls marked *", String.join(" ", marked.keySet()), UNDOABLE);
    }
}
