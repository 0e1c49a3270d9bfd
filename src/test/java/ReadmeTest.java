import java.io.IOException;
import java.lang.reflect.InvocationTargetException;
import java.net.URL;
import java.net.URLClassLoader;
import java.nio.file.Files;
import java.nio.file.Path;
import java.util.regex.Matcher;
import java.util.regex.Pattern;
import javax.tools.ToolProvider;

/** The examples of README.md are compiled as they stand there, and each call answers what its remark says. */
public final class ReadmeTest {
    private static final Pattern BLOCK = Pattern.compile("```java\\n(.*?)```", Pattern.DOTALL);
    private static final Pattern CALL = Pattern.compile("(?m)^(x\\.\\w+\\(.*\\)); *// (-?\\d+)\\b.*$");
    private static final Pattern NAME = Pattern.compile("`(\\w+)`");

    public static void main(String[] args) throws IOException, ReflectiveOperationException {
        String readme = Files.readString(Path.of("README.md"));
        StringBuilder methods = new StringBuilder();
        StringBuilder calls = new StringBuilder();
        Matcher block = BLOCK.matcher(readme);
        while (block.find()) {
            (block.group(1).startsWith("static ") ? methods : calls).append(block.group(1)).append('\n');
        }
        Matcher call = CALL.matcher(calls);
        String body = call.replaceAll(found -> "due(\"" + found.group(1) + "\", " + found.group(1) + ", " + found.group(2) + ");");
        House.due("calls without an answer", body.split("(?m)^x\\.").length - 1, 0);
        run("public class Example {\n    static void due(String what, int got, int want) { ReadmeTest.due(what, got, want); }\n"
            + methods + "public static void main(String[] args) {\n" + body + "}\n}\n");
        tableOfCalls(readme);
        tableOfTests(readme);
        House.finish();
    }

    /** What the example asks, from a class of its own. */
    public static void due(String what, int got, int want) {
        House.due("README: " + what, got, want);
    }

    private static void run(String source) throws IOException, ReflectiveOperationException {
        Path folder = Files.createTempDirectory("readme");
        try {
            Path file = Files.writeString(folder.resolve("Example.java"), source);
            String classes = System.getProperty("java.class.path");
            int fault = ToolProvider.getSystemJavaCompiler().run(null, null, null, "-cp", classes, "-d", folder.toString(), file.toString());
            House.due("README: javac", fault, 0);
            if (fault == 0) {
                call(folder);
            }
        } finally {
            Files.deleteIfExists(folder.resolve("Example.class"));
            Files.deleteIfExists(folder.resolve("Example.java"));
            Files.deleteIfExists(folder);
        }
    }

    private static void call(Path folder) throws IOException, ReflectiveOperationException {
        try (URLClassLoader loader = new URLClassLoader(new URL[] {folder.toUri().toURL()})) {
            loader.loadClass("Example").getMethod("main", String[].class).invoke(null, (Object) new String[0]);
        } catch (InvocationTargetException e) {
            House.due("README: threw " + e.getCause(), 1, 0);
        }
    }

    /** Each call of the class stands in the table, once. */
    private static void tableOfCalls(String readme) {
        String table = readme.substring(readme.indexOf("| calls |"), readme.indexOf("What can't be answered"));
        for (java.lang.reflect.Method method : TurnHouse.class.getMethods()) {
            if (method.getDeclaringClass() == TurnHouse.class) {
                House.due("README: rows with " + method.getName(), times(table, method.getName()), 1);
            }
        }
    }

    private static int times(String table, String name) {
        int times = 0;
        Matcher one = NAME.matcher(table);
        while (one.find()) {
            times += one.group(1).equals(name) ? 1 : 0;
        }
        return times;
    }

    private static void tableOfTests(String readme) throws IOException {
        try (java.util.stream.Stream<Path> files = Files.list(Path.of("src/test/java"))) {
            files.map(file -> file.getFileName().toString().replace(".java", ""))
                .filter(name -> name.endsWith("Test") && !name.endsWith("EdgesTest"))
                .forEach(name -> House.due("README: rows with " + name, times(readme, name) > 0 ? 1 : 0, 1));
        }
    }
}
