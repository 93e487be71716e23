import java.io.IOException;
import java.lang.reflect.Method;
import java.lang.reflect.Modifier;
import java.net.URL;
import java.net.URLClassLoader;
import java.nio.file.Files;
import java.nio.file.Path;
import java.util.ArrayList;
import java.util.List;
import java.util.function.Supplier;
import java.util.regex.Matcher;
import java.util.regex.Pattern;
import java.util.stream.Stream;
import javax.tools.JavaCompiler;
import javax.tools.ToolProvider;

/** README.md: its example answers what its comments say, and it names every call and every test. */
public final class ReadmeTest {
    private static final Check check = new Check("ReadmeTest");
    private static final Path PROJECT = Path.of(System.getProperty("project", "."));
    private static final Pattern DECLARATION = Pattern.compile("\\w+ (\\w+) = .*;");

    public static void main(String[] args) throws IOException, ReflectiveOperationException {
        String readme = Files.readString(PROJECT.resolve("README.md"));
        theExampleAnswers(readme);
        everyCallIsNamed(readme);
        everyTestIsNamed(readme);
        check.end();
    }

    private static void theExampleAnswers(String readme) throws IOException, ReflectiveOperationException {
        List<String> lines = new ArrayList<>();
        List<String> due = new ArrayList<>();
        StringBuilder body = new StringBuilder();
        for (String line : example(readme)) {
            String[] parts = line.split(" *// ", 2);
            if (parts.length == 2) {
                lines.add(parts[0]);
                due.add(parts[1].split(":")[0]);
                body.append(asked(parts[0], due.get(due.size() - 1)));
            } else {
                body.append(line).append('\n');
            }
        }
        List<String> got = run(body.toString());
        check.same("the answers of the example", got.size(), due.size());
        for (int i = 0; i < due.size(); i++) {
            check.same(lines.get(i), got.get(i), due.get(i));
        }
        everyCallIsMade(body.toString());
    }

    private static List<String> example(String readme) {
        List<String> lines = new ArrayList<>();
        String block = readme.split("```java\n")[1].split("```")[0];
        for (String line : block.split("\n")) {
            if (!line.isBlank()) {
                lines.add(line);
            }
        }
        return lines;
    }

    /** The line, and the code that keeps its answer. */
    private static String asked(String line, String due) {
        Matcher declaration = DECLARATION.matcher(line);
        if (declaration.matches()) {
            return line + " answers.add(\"\" + " + declaration.group(1) + ");\n";
        }
        String kept = "answers.add(\"\" + " + line.substring(0, line.length() - 1) + ");";
        if (!due.startsWith("throws ")) {
            return kept + "\n";
        }
        return "try { " + kept + " } catch (RuntimeException e) { answers.add(\"throws \" + e.getClass().getSimpleName()); }\n";
    }

    private static List<String> run(String body) throws IOException, ReflectiveOperationException {
        Path folder = Files.createTempDirectory("readme");
        Path source = folder.resolve("Example.java");
        Path compiled = folder.resolve("Example.class");
        try {
            Files.writeString(source, "public class Example implements java.util.function.Supplier<java.util.List<String>> {\n"
                    + "public java.util.List<String> get() {\n"
                    + "java.util.List<String> answers = new java.util.ArrayList<>();\n" + body + "return answers;\n}\n}\n");
            compile(source);
            return answers(folder);
        } finally {
            Files.deleteIfExists(compiled);
            Files.deleteIfExists(source);
            Files.deleteIfExists(folder);
        }
    }

    private static void compile(Path source) {
        JavaCompiler javac = ToolProvider.getSystemJavaCompiler();
        check.yes("there is a compiler", javac != null);
        int exit = javac.run(null, null, null, "-classpath", System.getProperty("java.class.path"), source.toString());
        check.same("javac's exit code for the example", exit, 0);
    }

    @SuppressWarnings("unchecked")
    private static List<String> answers(Path folder) throws IOException, ReflectiveOperationException {
        URL[] places = {folder.toUri().toURL()};
        try (URLClassLoader loader = new URLClassLoader(places, ReadmeTest.class.getClassLoader())) {
            Object example = loader.loadClass("Example").getConstructor().newInstance();
            return ((Supplier<List<String>>) example).get();
        }
    }

    private static void everyCallIsMade(String body) {
        for (String name : calls()) {
            check.yes("the example makes the call " + name, body.contains("gate." + name + "("));
        }
    }

    private static void everyCallIsNamed(String readme) {
        for (String name : calls()) {
            check.yes("a row for the call " + name, readme.contains("\n| `" + name + "("));
        }
    }

    private static List<String> calls() {
        List<String> names = new ArrayList<>();
        for (Method method : AccessGate.class.getDeclaredMethods()) {
            if (Modifier.isPublic(method.getModifiers())) {
                names.add(method.getName());
            }
        }
        return names;
    }

    private static void everyTestIsNamed(String readme) throws IOException {
        try (Stream<Path> files = Files.list(PROJECT.resolve("src/test/java"))) {
            List<String> names = files.map(file -> file.getFileName().toString()).toList();
            for (String name : names) {
                if (name.endsWith("Test.java")) {
                    check.yes("the test " + name, readme.contains("`" + name.replace(".java", "") + "`"));
                }
            }
        }
    }
}
