import java.io.IOException;
import java.lang.reflect.Method;
import java.lang.reflect.Modifier;
import java.net.URL;
import java.net.URLClassLoader;
import java.nio.file.Files;
import java.nio.file.Path;
import java.util.ArrayList;
import java.util.List;
import java.util.TreeSet;
import java.util.regex.Matcher;
import java.util.regex.Pattern;
import java.util.stream.Stream;
import javax.tools.ToolProvider;

/** What README.md shows holds: its example is compiled and run, and its table names each call just as it is. */
public final class ReadmeTest {
    private static final Path README = Path.of("README.md");
    private static final Pattern SHOWN = Pattern.compile("(files\\.\\w+\\([^;]*\\));\\s*// (-?\\d+)\\b.*");
    private static int wrong = 0;
    private static int shown = 0;

    /** Called by the example, too. */
    public static void due(String what, Object got, Object want) {
        if (!got.equals(want)) {
            wrong++;
            System.out.println("ReadmeTest: " + what + ": " + got + ", due is " + want);
        }
    }

    private static String exampleOf(String readme) {
        Matcher block = Pattern.compile("(?s)```java\n(.*?)```").matcher(readme);
        if (!block.find()) {
            due("an example", false, true);
            return "";
        }
        StringBuilder code = new StringBuilder("public final class Example {\n  public static void main(String[] args) {\n");
        for (String line : block.group(1).split("\n")) {
            Matcher call = SHOWN.matcher(line);
            if (call.matches()) {
                shown++;
                line = "ReadmeTest.due(\"" + call.group(1) + "\", " + call.group(1) + ", " + call.group(2) + ");";
            } else {
                due("a number behind '" + line + "'", line.contains("//"), false);
            }
            code.append(line).append('\n');
        }
        return code.append("  }\n}\n").toString();
    }

    private static void example(String readme) throws Exception {
        Path folder = Files.createTempDirectory("readme");
        try {
            Path source = folder.resolve("Example.java");
            Files.writeString(source, exampleOf(readme));
            int failed = ToolProvider.getSystemJavaCompiler().run(null, null, null, "-d", folder.toString(),
                "-cp", System.getProperty("java.class.path"), source.toString());
            due("faults in the example", failed, 0);
            if (failed == 0) {
                try (URLClassLoader loader = new URLClassLoader(new URL[] {folder.toUri().toURL()})) {
                    loader.loadClass("Example").getMethod("main", String[].class).invoke(null, (Object) new String[0]);
                }
            }
            due("calls shown", shown > 0, true);
        } finally {
            remove(folder);
        }
    }

    private static void remove(Path folder) throws IOException {
        try (Stream<Path> files = Files.list(folder)) {
            for (Path file : files.toList()) Files.delete(file);
        }
        Files.delete(folder);
    }

    private static void table(String readme) {
        TreeSet<String> named = new TreeSet<>();
        Matcher row = Pattern.compile("(?m)^\\| `(\\w+)\\(([^)]*)\\)` \\|").matcher(readme);
        while (row.find()) {
            named.add(row.group(1) + " " + (row.group(2).isEmpty() ? 0 : row.group(2).split(",").length));
        }
        TreeSet<String> face = new TreeSet<>();
        for (Method method : VoteFiles.class.getDeclaredMethods()) {
            if (Modifier.isPublic(method.getModifiers())) face.add(method.getName() + " " + method.getParameterCount());
        }
        due("the calls in the table", named, face);
    }

    private static void tests(String readme) throws IOException {
        List<String> missing = new ArrayList<>();
        try (Stream<Path> files = Files.list(Path.of("src/test/java"))) {
            for (Path file : files.toList()) {
                String name = file.getFileName().toString().replace(".java", "");
                if (!readme.contains("- `" + name + "`:")) missing.add(name);
            }
        }
        due("tests that it does not name", missing, List.of());
    }

    public static void main(String[] args) throws Exception {
        String readme = Files.readString(README);
        example(readme);
        table(readme);
        tests(readme);
        System.out.println("ReadmeTest: " + shown + " calls shown, " + wrong + " wrong");
        if (wrong != 0) System.exit(1);
    }
}
