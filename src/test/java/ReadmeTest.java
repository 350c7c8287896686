import java.io.ByteArrayOutputStream;
import java.io.IOException;
import java.io.PrintStream;
import java.lang.reflect.Method;
import java.lang.reflect.Modifier;
import java.net.URL;
import java.net.URLClassLoader;
import java.nio.charset.StandardCharsets;
import java.nio.file.DirectoryStream;
import java.nio.file.Files;
import java.nio.file.Path;
import java.util.ArrayList;
import java.util.List;
import java.util.regex.Matcher;
import java.util.regex.Pattern;
import java.util.stream.Collectors;
import java.util.stream.Stream;
import javax.tools.ToolProvider;

/** README.md: its examples print what they say, and it leaves out no call and no test. */
public final class ReadmeTest {
    private static final Pattern EXAMPLE = Pattern.compile("```java\n(.*?)```", Pattern.DOTALL);
    private static final Pattern PRINTED = Pattern.compile("println\\(.*\\); +// (.*)");

    public static void main(String[] args) throws Exception {
        String readme = Files.readString(Path.of("README.md"));
        examples(readme);
        calls(readme);
        tests(readme);
        Checks.due("it says how to run the tests", readme.contains("    .ci/run\n"), true);
        Checks.finish();
    }

    private static void examples(String readme) throws Exception {
        int found = 0;
        Matcher example = EXAMPLE.matcher(readme);
        while (example.find()) {
            found++;
            List<String> due = new ArrayList<>();
            Matcher printed = PRINTED.matcher(example.group(1));
            while (printed.find()) {
                due.add(printed.group(1));
            }
            List<String> got = run(example.group(1));
            Checks.due("example " + found + " prints something", !due.isEmpty(), true);
            Checks.due("example " + found + " prints " + got + " for " + due, got.equals(due), true);
        }
        Checks.due("there are examples", found > 0, true);
    }

    private static List<String> run(String lines) throws Exception {
        Path out = Files.createTempDirectory("readme");
        Path source = out.resolve("Example.java");
        try {
            Files.writeString(source, "public final class Example {\n"
                + "public static void main(String[] args) {\n" + lines + "}\n}\n");
            int compiled = ToolProvider.getSystemJavaCompiler().run(null, null, null, "-d", out.toString(),
                "-cp", System.getProperty("java.class.path"), source.toString());
            Checks.due("the example compiles", compiled, 0);
            return compiled == 0 ? printed(out) : List.of();
        } finally {
            empty(out);
        }
    }

    private static List<String> printed(Path classes) throws Exception {
        PrintStream before = System.out;
        ByteArrayOutputStream text = new ByteArrayOutputStream();
        try (URLClassLoader loader = new URLClassLoader(new URL[] {classes.toUri().toURL()})) {
            Method main = loader.loadClass("Example").getMethod("main", String[].class);
            System.setOut(new PrintStream(text, true, StandardCharsets.UTF_8));
            main.invoke(null, (Object) new String[0]);
        } finally {
            System.setOut(before);
        }
        return text.toString(StandardCharsets.UTF_8).lines().collect(Collectors.toList());
    }

    private static void empty(Path directory) throws IOException {
        try (DirectoryStream<Path> files = Files.newDirectoryStream(directory)) {
            for (Path file : files) {
                Files.delete(file);
            }
        }
        Files.delete(directory);
    }

    private static void calls(String readme) {
        for (Method method : GuestClassMachine.class.getDeclaredMethods()) {
            if (Modifier.isPublic(method.getModifiers())) {
                Checks.due("it tells of " + method.getName(), readme.contains("`" + method.getName() + "("), true);
            }
        }
    }

    private static void tests(String readme) throws IOException {
        try (Stream<Path> files = Files.list(Path.of("src/test/java"))) {
            List<String> names = files.map(file -> file.getFileName().toString().replace(".java", ""))
                .collect(Collectors.toList());
            for (String name : names) {
                Checks.due("it tells of " + name, readme.contains("`" + name + "`"), true);
            }
        }
    }
}
