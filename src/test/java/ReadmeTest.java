import java.io.IOException;
import java.lang.reflect.Method;
import java.lang.reflect.Modifier;
import java.net.URL;
import java.net.URLClassLoader;
import java.nio.file.Files;
import java.nio.file.Path;
import java.util.ArrayList;
import java.util.List;
import java.util.Set;
import java.util.TreeSet;
import java.util.regex.Matcher;
import java.util.regex.Pattern;
import java.util.stream.Stream;
import javax.tools.ToolProvider;

/** README.md: what its examples say of the class is so, and it names every call, every test and every file beside them. */
public final class ReadmeTest {
    private static final Check CHECK = new Check("ReadmeTest");
    private static final Pattern ANSWERED = Pattern.compile("(x\\.\\w+\\(.*\\));\\s*// (-?\\d+|true|false): .*");

    public static void main(String[] args) throws Exception {
        Path root = Path.of(args.length > 0 ? args[0] : ".");
        String readme = Files.readString(root.resolve("README.md"));
        examples(readme);
        names(readme, root.resolve("src/test/java"));
        CHECK.due("it says how to run the tests", readme.contains("```sh\n.ci/run\n```"), true);
        CHECK.due("what it names is there", Files.isExecutable(root.resolve(".ci/run")), true);
        CHECK.end();
    }

    // ---- the examples

    private static void examples(String readme) throws Exception {
        StringBuilder members = new StringBuilder();
        StringBuilder runs = new StringBuilder();
        Matcher block = Pattern.compile("(?s)```java\\n(.*?)```").matcher(readme);
        int blocks = 0;
        while (block.find()) {
            if (block.group(1).startsWith("static ")) {
                members.append(block.group(1));
            } else {
                runs.append("{\n").append(asked(block.group(1))).append("}\n");
                blocks++;
            }
        }
        CHECK.due("examples", blocks, 3);
        List<?> answers = answers("public final class ReadmeExample {\n" + members
                + "public static java.util.List<String[]> run() {\n"
                + "java.util.List<String[]> got = new java.util.ArrayList<>();\n" + runs + "return got;\n}\n}\n");
        for (Object one : answers) {
            String[] parts = (String[]) one;
            CHECK.due(parts[0] + " answered " + parts[1] + ", README.md says " + parts[2], parts[1].equals(parts[2]), true);
        }
    }

    /** An example whose every call on x must be told with its answer; other lines stay as they are. */
    private static String asked(String example) {
        StringBuilder lines = new StringBuilder();
        for (String line : example.split("\n")) {
            Matcher answered = ANSWERED.matcher(line);
            if (answered.matches()) {
                String call = answered.group(1);
                lines.append("got.add(new String[] {\"").append(call).append("\", String.valueOf(").append(call)
                        .append("), \"").append(answered.group(2)).append("\"});\n");
            } else {
                CHECK.due("a call without its answer: " + line, line.startsWith("x."), false);
                lines.append(line).append("\n");
            }
        }
        return lines.toString();
    }

    private static List<?> answers(String source) throws Exception {
        Path out = Files.createTempDirectory("readme");
        Path file = out.resolve("ReadmeExample.java");
        Files.writeString(file, source);
        int failed = ToolProvider.getSystemJavaCompiler().run(null, null, null,
                "-cp", System.getProperty("java.class.path"), "-d", out.toString(), file.toString());
        CHECK.due("the examples compile", failed, 0);
        if (failed != 0) {
            return List.of();
        }
        try (URLClassLoader loader = new URLClassLoader(new URL[] {out.toUri().toURL()})) {
            return (List<?>) loader.loadClass("ReadmeExample").getMethod("run").invoke(null);
        } finally {
            clear(out);
        }
    }

    private static void clear(Path directory) throws IOException {
        List<Path> files;
        try (Stream<Path> all = Files.list(directory)) {
            files = all.toList();
        }
        for (Path file : files) {
            Files.delete(file);
        }
        Files.delete(directory);
    }

    // ---- the names

    private static void names(String readme, Path tests) throws IOException {
        Set<String> named = new TreeSet<>();
        Matcher m = Pattern.compile("`(\\w+)`").matcher(readme.replaceAll("(?s)```.*?```", ""));
        while (m.find()) {
            named.add(m.group(1));
        }
        List<String> calls = new ArrayList<>();
        for (Method method : MaypoleGreen.class.getDeclaredMethods()) {
            if (Modifier.isPublic(method.getModifiers())) {
                calls.add(method.getName());
                CHECK.due("names the call " + method.getName(), named.contains(method.getName()), true);
            }
        }
        Set<String> files = new TreeSet<>();
        try (Stream<Path> all = Files.list(tests)) {
            all.forEach(file -> files.add(file.getFileName().toString().replace(".java", "")));
        }
        // what the tests share needs no word of its own
        files.removeAll(Set.of("Check", "Document"));
        for (String file : files) {
            CHECK.due("names the test " + file, named.contains(file), true);
        }
        for (String name : named) {
            boolean known = calls.contains(name) || files.contains(name)
                    || Set.of("NONE", "false", "javac", "java").contains(name);
            CHECK.due("what it names is there: " + name, known, true);
        }
    }
}
