import java.io.IOException;
import java.lang.reflect.Method;
import java.lang.reflect.Modifier;
import java.net.URL;
import java.net.URLClassLoader;
import java.nio.file.Files;
import java.nio.file.Path;
import java.util.ArrayList;
import java.util.List;
import java.util.regex.Matcher;
import java.util.regex.Pattern;
import java.util.stream.Stream;
import javax.tools.ToolProvider;

/** What README.md says: its example answers as it tells there, and each call and each test of the project is named. */
public final class ReadmeTest {
    private static final Pattern EXAMPLE = Pattern.compile("```java\n(.*?)```", Pattern.DOTALL);
    /** A line of the example whose value is told behind it: "int home = lamps.home(3, 4);  // 0: ..". */
    private static final Pattern TOLD = Pattern.compile("(?:int|long) (\\w+) = .*;\\s+// (-?\\d+)\\b.*");
    private static final Checks checks = new Checks();

    public static void main(String[] args) throws IOException, ReflectiveOperationException {
        Path root = Path.of(args.length > 0 ? args[0] : ".");
        String readme = Files.readString(root.resolve("README.md"));
        example(readme);
        calls(readme);
        tests(root, readme);
        checks.end("ReadmeTest");
    }

    private static void example(String readme) throws IOException, ReflectiveOperationException {
        Matcher found = EXAMPLE.matcher(readme);
        checks.holds("there is an example", found.find());
        String code = found.group(1);
        List<String> names = new ArrayList<>();
        List<Long> due = new ArrayList<>();
        for (String line : code.split("\n")) {
            Matcher told = TOLD.matcher(line);
            if (!told.matches()) continue;
            names.add(told.group(1));
            due.add(Long.parseLong(told.group(2)));
        }
        checks.holds("the example tells answers", names.size() >= 10);
        long[] answers = run(code, names);
        for (int i = 0; i < answers.length; i++) checks.due("README.md: " + names.get(i), answers[i], due.get(i));
    }

    /** Compiles the example and runs it: the values of its variables of those names. */
    private static long[] run(String code, List<String> names) throws IOException, ReflectiveOperationException {
        Path folder = Files.createTempDirectory("readme");
        Path source = folder.resolve("Example.java");
        try {
            Files.writeString(source, "public final class Example {\npublic static long[] run() {\n" + code
                + "return new long[] {" + String.join(", ", names) + "};\n}\n}\n");
            int refused = ToolProvider.getSystemJavaCompiler().run(null, null, null, "-nowarn", "-proc:none",
                "-cp", System.getProperty("java.class.path"), "-d", folder.toString(), source.toString());
            checks.due("compiling the example of README.md", refused, 0);
            if (refused != 0) return new long[0];
            try (URLClassLoader loader = new URLClassLoader(new URL[] {folder.toUri().toURL()})) {
                return (long[]) loader.loadClass("Example").getMethod("run").invoke(null);
            }
        } finally {
            try (Stream<Path> made = Files.list(folder)) {
                for (Path file : made.toList()) Files.delete(file);
            }
            Files.delete(folder);
        }
    }

    private static void calls(String readme) {
        for (Method call : SunLamps.class.getDeclaredMethods()) {
            if (!Modifier.isPublic(call.getModifiers())) continue;
            checks.holds("README.md tells of " + call.getName(), readme.contains("`" + call.getName() + "("));
        }
    }

    private static void tests(Path root, String readme) throws IOException {
        try (Stream<Path> files = Files.list(root.resolve(Path.of("src", "test", "java")))) {
            for (Path file : files.toList()) {
                String name = file.getFileName().toString().replace(".java", "");
                if (name.endsWith("Test")) checks.holds("README.md tells of " + name, readme.contains("`" + name + "`"));
            }
        }
    }
}
