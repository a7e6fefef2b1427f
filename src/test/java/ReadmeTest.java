import java.io.IOException;
import java.lang.reflect.Method;
import java.lang.reflect.Modifier;
import java.net.URL;
import java.net.URLClassLoader;
import java.nio.file.Files;
import java.nio.file.Path;
import java.util.ArrayList;
import java.util.Comparator;
import java.util.List;
import java.util.regex.Matcher;
import java.util.regex.Pattern;
import java.util.stream.Stream;
import javax.tools.ToolProvider;

/** README.md: its example answers what stands behind each call, and no call and no test is left out. */
final class ReadmeTest {
    /** A call of the example, perhaps with the variable that its answer goes to, and the answer. */
    private static final Pattern ANSWERED = Pattern.compile("(?:int (\\w+) = )?(.+); // (-?\\d+).*");

    private static final Due DUE = new Due();

    private ReadmeTest() {
    }

    public static void main(String[] args) throws IOException, ReflectiveOperationException {
        Path program = Path.of(System.getProperty("program", "src/main/java/ChronicleRows.java")).toAbsolutePath();
        Path root = program.getParent().getParent().getParent().getParent();
        String page = Files.readString(root.resolve("README.md"));
        calls(page);
        tests(page, root.resolve("src/test/java"));
        example(page);
        DUE.end();
    }

    private static void calls(String page) {
        for (Method method : ChronicleRows.class.getDeclaredMethods()) {
            if (Modifier.isPublic(method.getModifiers())) {
                String parameters = ", \\w+".repeat(method.getParameterCount()).replaceFirst("^, ", "");
                Pattern row = Pattern.compile("^\\| `" + method.getName() + "\\(" + parameters + "\\)`", Pattern.MULTILINE);
                DUE.same("a row of the table for " + method.getName(), row.matcher(page).find(), true);
            }
        }
    }

    private static void tests(String page, Path folder) throws IOException {
        try (Stream<Path> files = Files.list(folder)) {
            for (Path file : (Iterable<Path>) files::iterator) {
                String name = file.getFileName().toString().replace(".java", "");
                if (name.endsWith("Test")) {
                    DUE.same("a row of the table for " + name, page.contains("\n| `" + name + "` |"), true);
                }
            }
        }
    }

    private static void example(String page) throws IOException, ReflectiveOperationException {
        Matcher block = Pattern.compile("```java\n(.*?)```", Pattern.DOTALL).matcher(page);
        DUE.same("there is an example", block.find(), true);
        List<String> calls = new ArrayList<>();
        List<Long> due = new ArrayList<>();
        StringBuilder body = new StringBuilder();
        for (String line : block.group(1).split("\n")) {
            Matcher answered = ANSWERED.matcher(line);
            if (answered.matches()) {
                String name = answered.group(1) == null ? "answer" + calls.size() : answered.group(1);
                body.append("int ").append(name).append(" = ").append(answered.group(2)).append(";\n");
                body.append("answers.add((long) ").append(name).append(");\n");
                calls.add(answered.group(2));
                due.add(Long.valueOf(answered.group(3)));
            } else {
                body.append(line).append('\n');
            }
        }
        List<?> answers = answersOf(body.toString());
        DUE.same("answers of the example", answers.size(), due.size());
        for (int index = 0; index < due.size() && index < answers.size(); index++) {
            DUE.same("README.md: " + calls.get(index), answers.get(index), due.get(index));
        }
    }

    private static List<?> answersOf(String body) throws IOException, ReflectiveOperationException {
        Path folder = Files.createTempDirectory("readme");
        try {
            Path file = folder.resolve("ReadmeExample.java");
            Files.writeString(file, "public final class ReadmeExample {\n"
                    + "public static java.util.List<Long> answers() {\n"
                    + "java.util.List<Long> answers = new java.util.ArrayList<>();\n" + body + "return answers;\n}\n}\n");
            String path = System.getProperty("java.class.path");
            int code = ToolProvider.getSystemJavaCompiler().run(null, null, null, "-cp", path, "-d", folder.toString(),
                    file.toString());
            DUE.same("exit code of javac for the example", code, 0);
            return code == 0 ? answersIn(folder) : List.of();
        } finally {
            remove(folder);
        }
    }

    private static List<?> answersIn(Path folder) throws IOException, ReflectiveOperationException {
        try (URLClassLoader loader = new URLClassLoader(new URL[] {folder.toUri().toURL()})) {
            return (List<?>) loader.loadClass("ReadmeExample").getMethod("answers").invoke(null);
        }
    }

    private static void remove(Path folder) throws IOException {
        try (Stream<Path> all = Files.walk(folder)) {
            for (Path path : (Iterable<Path>) all.sorted(Comparator.reverseOrder())::iterator) {
                Files.delete(path);
            }
        }
    }
}
