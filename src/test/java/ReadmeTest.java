import java.io.IOException;
import java.lang.reflect.Method;
import java.lang.reflect.Modifier;
import java.net.URL;
import java.net.URLClassLoader;
import java.nio.file.Files;
import java.nio.file.Path;
import java.util.List;
import java.util.regex.Matcher;
import java.util.regex.Pattern;
import java.util.stream.Stream;
import javax.tools.ToolProvider;

/** The example of README.md answers what stands behind its calls, and the table there names every call. */
public final class ReadmeTest {
    private static final Due DUE = new Due();
    private static final Pattern EXAMPLE = Pattern.compile("(?s)```java\n(.*?)```");
    private static final Pattern ANSWERED = Pattern.compile("(store\\.\\w+\\(.*\\)); +// (-?\\d+|[A-Z_]+):.*");

    public static void main(String[] args) throws Exception {
        String readme = Files.readString(Path.of("README.md"));
        table(readme);
        Matcher example = EXAMPLE.matcher(readme);
        DUE.is("there is an example", 1, example.find() ? 1 : 0);
        run(program(example.group(1)));
        DUE.end("ReadmeTest");
    }

    private static void table(String readme) {
        for (Method method : WeakenedPages.class.getDeclaredMethods()) {
            if (Modifier.isPublic(method.getModifiers())) {
                Matcher row = Pattern.compile("\\| `" + method.getName() + "\\(([^)]*)\\)` \\|").matcher(readme);
                DUE.is("a row of " + method.getName(), 1, row.find() ? 1 : 0);
                String arguments = row.group(1);
                int number = arguments.isEmpty() ? 0 : arguments.split(",").length;
                DUE.is("arguments of " + method.getName(), method.getParameterCount(), number);
            }
        }
    }

    /** The lines of the example, in which each answer is noted together with the one behind the call. */
    private static String program(String example) {
        StringBuilder program = new StringBuilder("public final class Example {\n"
            + "public static java.util.List<int[]> answers() {\n"
            + "java.util.List<int[]> answers = new java.util.ArrayList<>();\n");
        for (String line : example.split("\n")) {
            Matcher answered = ANSWERED.matcher(line);
            if (answered.matches()) {
                String due = answered.group(2);
                String value = Character.isLetter(due.charAt(0)) ? "WeakenedPages." + due : due;
                program.append("answers.add(new int[] {" + value + ", " + answered.group(1) + "});\n");
            } else {
                DUE.is("an answer that is not understood: " + line, -1, line.indexOf("//"));
                program.append(line).append('\n');
            }
        }
        return program.append("return answers;\n}\n}\n").toString();
    }

    @SuppressWarnings("unchecked")
    private static void run(String program) throws Exception {
        Path directory = Files.createTempDirectory("readme");
        try {
            Path source = Files.writeString(directory.resolve("Example.java"), program);
            int compiled = ToolProvider.getSystemJavaCompiler().run(null, null, null, "-d", directory.toString(),
                "-classpath", System.getProperty("java.class.path"), source.toString());
            DUE.is("the example compiles", 0, compiled);
            try (URLClassLoader loader = new URLClassLoader(new URL[] {directory.toUri().toURL()})) {
                Object answers = loader.loadClass("Example").getMethod("answers").invoke(null);
                compare((List<int[]>) answers);
            }
        } finally {
            delete(directory);
        }
    }

    private static void compare(List<int[]> answers) {
        DUE.is("the example has answers", 0, answers.isEmpty() ? 1 : 0);
        for (int index = 0; index < answers.size(); index++) {
            DUE.is("answer " + index + " of the example", answers.get(index)[0], answers.get(index)[1]);
        }
    }

    private static void delete(Path directory) throws IOException {
        try (Stream<Path> files = Files.list(directory)) {
            for (Path file : (Iterable<Path>) files::iterator) {
                Files.delete(file);
            }
        }
        Files.delete(directory);
    }
}
