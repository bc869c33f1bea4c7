import java.io.IOException;
import java.lang.reflect.Field;
import java.lang.reflect.Method;
import java.lang.reflect.Modifier;
import java.net.URL;
import java.net.URLClassLoader;
import java.nio.file.Files;
import java.nio.file.Path;
import java.util.ArrayList;
import java.util.List;
import java.util.regex.Matcher;
import java.util.regex.Pattern;
import java.util.stream.Collectors;
import java.util.stream.IntStream;
import javax.tools.JavaCompiler;
import javax.tools.ToolProvider;

/** README.md's examples are compiled and run, and each call in them answers what stands behind it. */
public final class ReadmeTest extends TestKit {
    private static final Pattern EXAMPLE = Pattern.compile("(?s)```java\n(.*?)```");
    private static final Pattern LINE = Pattern.compile("(int \\w+ = )?(states\\.\\w+\\(.*\\)); +// (\\w+)(:.*)?");

    private static int answers = 0;

    /** A line with its answer as a line that tests it; any other line as it is. */
    private static String tested(String line) {
        Matcher parts = LINE.matcher(line);
        if (!parts.matches()) {
            check(!line.contains("//"), "no answer is found in: " + line);
            return line + "\n";
        }
        answers++;
        String made = parts.group(1) == null ? "" : parts.group(1);
        String call = parts.group(2);
        String want = parts.group(3).matches("[0-9]+") ? parts.group(3) : "SharedStates." + parts.group(3);
        return made + "tested(\"" + call.replace("\"", "\\\"") + "\", " + call + ", " + want + ");\n";
    }

    private static String source(String name, String example) {
        StringBuilder source = new StringBuilder("public final class " + name + " {\n"
            + "static int tested(String call, int got, int want) {\n"
            + "if (got != want) { throw new IllegalStateException(call + \" answered \" + got); }\n"
            + "return got; }\n"
            + "public static void run() {\n");
        for (String line : example.split("\n")) {
            source.append(tested(line));
        }
        return source.append("}\n}\n").toString();
    }

    private static void runExample(Path directory, String name, String example) throws Exception {
        begin("README.md, " + name);
        Path file = directory.resolve(name + ".java");
        Files.writeString(file, source(name, example));
        JavaCompiler compiler = ToolProvider.getSystemJavaCompiler();
        int code = compiler.run(null, null, null, "-cp", System.getProperty("java.class.path"),
            "-d", directory.toString(), file.toString());
        check(code == 0, "it does not compile");
        if (code != 0) {
            return;
        }
        try (URLClassLoader loader = new URLClassLoader(new URL[] {directory.toUri().toURL()})) {
            loader.loadClass(name).getMethod("run").invoke(null);
        } catch (java.lang.reflect.InvocationTargetException failure) {
            check(false, String.valueOf(failure.getCause().getMessage()));
        }
    }

    private static void examples(String readme) throws Exception {
        Path directory = Files.createTempDirectory("readme");
        try {
            Matcher found = EXAMPLE.matcher(readme);
            int many = 0;
            while (found.find()) {
                many++;
                runExample(directory, "Example" + many, found.group(1));
            }
            begin("README.md");
            due("examples", many, 2);
            check(answers > 20, "only " + answers + " answers were found in the examples");
        } finally {
            delete(directory);
        }
    }

    private static void delete(Path directory) throws IOException {
        List<Path> files = new ArrayList<>();
        try (var inside = Files.list(directory)) {
            files.addAll(inside.collect(Collectors.toList()));
        }
        files.add(directory);
        for (Path file : files) {
            Files.delete(file);
        }
    }

    private static void calls(String readme) {
        begin("README.md's calls");
        for (Method method : SharedStates.class.getDeclaredMethods()) {
            if (Modifier.isPublic(method.getModifiers())) {
                String arguments = IntStream.range(0, method.getParameterCount()).mapToObj(i -> "\\w+")
                    .collect(Collectors.joining(", "));
                Pattern call = Pattern.compile("`" + method.getName() + "\\(" + arguments + "\\)`");
                check(call.matcher(readme).find(), "it does not name " + method.getName());
            }
        }
    }

    private static void errors(String readme) throws IllegalAccessException {
        begin("README.md's errors");
        for (Field field : SharedStates.class.getDeclaredFields()) {
            if (Modifier.isPublic(field.getModifiers())) {
                String row = "| `" + field.getName() + "` | " + field.getInt(null) + " |";
                check(readme.contains(row), "it does not say " + row);
            }
        }
    }

    public static void main(String[] args) throws Exception {
        String readme = Files.readString(Path.of("README.md"));
        examples(readme);
        calls(readme);
        errors(readme);
        finish("the README holds");
    }
}
