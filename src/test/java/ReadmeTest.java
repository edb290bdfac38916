import java.io.IOException;
import java.lang.reflect.Method;
import java.lang.reflect.Modifier;
import java.net.URL;
import java.net.URLClassLoader;
import java.nio.file.Files;
import java.nio.file.Path;
import java.util.function.BiConsumer;
import java.util.regex.Matcher;
import java.util.regex.Pattern;
import javax.tools.ToolProvider;

/** README.md: its examples answer what stands beside them, and it tells of every call and every test. */
public final class ReadmeTest {
    private static final Due DUE = new Due("ReadmeTest");
    private static final Pattern EXAMPLE = Pattern.compile("(?s)```java\n(.*?)```");
    /** A call with the answer that is due in the comment behind it: a number or one of the constants. */
    private static final Pattern CALL = Pattern.compile("(x\\.\\w+\\(.*\\)); +// (-?\\d+|[A-Z]+)\\b.*");

    /** Run from the project's folder. */
    public static void main(String[] args) throws IOException, ReflectiveOperationException {
        String readme = Files.readString(Path.of("README.md"));
        examples(readme);
        everyCallIsTold(readme);
        everyTestIsTold(readme);
        DUE.close();
    }

    private static void examples(String readme) throws IOException, ReflectiveOperationException {
        Matcher example = EXAMPLE.matcher(readme);
        int seen = 0;
        while (example.find()) {
            seen++;
            calls(example.group(1));
            doExample("Example" + seen, example.group(1));
        }
        DUE.is("examples", seen, 2);
    }

    private static void calls(String example) {
        for (String line : example.split("\n")) {
            boolean isCall = line.strip().startsWith("x.");
            DUE.holds("the answer stands beside: " + line, !isCall || CALL.matcher(line.strip()).matches());
        }
    }

    private static void doExample(String name, String example) throws IOException, ReflectiveOperationException {
        String body = CALL.matcher(example).replaceAll(call -> "due.accept(\"" + call.group(1) + "\", new int[] {"
                + call.group(1) + ", " + valueOf(call.group(2)) + "});");
        Path folder = Files.createTempDirectory("readme");
        Path source = folder.resolve(name + ".java");
        Path compiled = folder.resolve(name + ".class");
        Files.writeString(source, "public class " + name + " { public static void run("
                + "java.util.function.BiConsumer<String, int[]> due) {\n" + body + "} }\n");
        int code = ToolProvider.getSystemJavaCompiler().run(null, null, null, "-d", folder.toString(),
                "-cp", System.getProperty("java.class.path"), source.toString());
        DUE.is("compiling " + name, code, 0);
        if (code == 0) {
            runCompiled(folder, name);
        }
        Files.deleteIfExists(compiled);
        Files.delete(source);
        Files.delete(folder);
    }

    private static String valueOf(String answer) {
        return answer.matches("[A-Z]+") ? "MonitorTurns." + answer : answer;
    }

    private static void runCompiled(Path folder, String name) throws IOException, ReflectiveOperationException {
        try (URLClassLoader loader = new URLClassLoader(new URL[] {folder.toUri().toURL()})) {
            BiConsumer<String, int[]> due = (call, answers) -> DUE.is(call, answers[0], answers[1]);
            loader.loadClass(name).getMethod("run", BiConsumer.class).invoke(null, due);
        }
    }

    private static void everyCallIsTold(String readme) {
        for (Method method : MonitorTurns.class.getDeclaredMethods()) {
            boolean isOpen = Modifier.isPublic(method.getModifiers());
            DUE.holds(method.getName() + " is told of", !isOpen || readme.contains("`" + method.getName() + "`"));
        }
    }

    private static void everyTestIsTold(String readme) throws IOException {
        try (var files = Files.list(Path.of("src/test/java"))) {
            files.map(file -> file.getFileName().toString().replace(".java", ""))
                    .filter(name -> name.endsWith("Test"))
                    .forEach(name -> DUE.holds(name + " is told of", readme.contains("| `" + name + "` | ")));
        }
    }
}
