import java.net.URL;
import java.net.URLClassLoader;
import java.nio.file.Files;
import java.nio.file.Path;
import java.util.List;
import java.util.Set;
import java.util.TreeSet;
import java.util.regex.Matcher;
import java.util.regex.Pattern;
import java.util.stream.Stream;
import javax.tools.ToolProvider;

/** README.md: its example, with the answers that it tells, and the tests that it names. To be run in the project's folder. */
public final class ReadmeTest {
    private static final String MARK = "// -> ";
    /** A call, perhaps kept under a name, and what it answers or throws; what is behind a comma is for the reader alone. */
    private static final Pattern TOLD = Pattern.compile("\\s*(?:(\\w+) (\\w+) = )?([^=]+);\\s+" + MARK + "(throws )?([^,]+)(?:, .+)?");

    public static void main(String[] args) throws Exception {
        List<String> readme = Files.readAllLines(Path.of("README.md"));
        List<String> example = example(readme);
        Check.due("the example tells answers", () -> example.stream().anyMatch(row -> row.contains(MARK)), true);
        runExample(example);
        Check.due("the tests that are named", () -> named(readme), testsOfProject());
        Check.end("ReadmeTest");
    }

    private static List<String> example(List<String> readme) {
        int from = readme.indexOf("```java") + 1;
        return readme.subList(from, from + readme.subList(from, readme.size()).indexOf("```"));
    }

    /** The example as a program that holds each answer against the one that is told, and ends with exit code 1 if one is wrong. */
    private static void runExample(List<String> example) throws Exception {
        StringBuilder program = new StringBuilder("public final class ReadmeExample {\n    public static void main(String[] args) {\n");
        for (String row : example) {
            program.append(row.contains(MARK) ? checked(row) : row).append('\n');
        }
        program.append("Check.end(\"the example of README.md\");\n    }\n}\n");
        Path folder = Files.createTempDirectory("readme");
        Path source = Files.writeString(folder.resolve("ReadmeExample.java"), program);
        String tests = System.getProperty("java.class.path");
        int fault = ToolProvider.getSystemJavaCompiler().run(null, null, null, "-Xlint:all", "-Werror", "-cp", tests, "-d", folder.toString(), source.toString());
        folder.toFile().deleteOnExit();
        source.toFile().deleteOnExit();
        folder.resolve("ReadmeExample.class").toFile().deleteOnExit();
        Check.due("the example compiles", () -> fault, 0);
        if (fault == 0) {
            runFrom(folder, Path.of(tests));
        }
    }

    /** One loader for both, as the example uses Check, which is not public. */
    private static void runFrom(Path folder, Path tests) throws Exception {
        URL[] both = {folder.toUri().toURL(), tests.toUri().toURL()};
        try (URLClassLoader loader = new URLClassLoader(both, ClassLoader.getPlatformClassLoader())) {
            loader.loadClass("ReadmeExample").getMethod("main", String[].class).invoke(null, (Object) new String[0]);
        }
    }

    private static String checked(String row) {
        Matcher told = TOLD.matcher(row);
        if (!told.matches()) {
            throw new IllegalStateException("this row of README.md can't be read: " + row);
        }
        String call = told.group(3);
        String kept = told.group(2) == null ? "" : told.group(1) + " " + told.group(2) + " = " + call + "; ";
        String want = told.group(4) == null ? told.group(5) : "\"" + told.group(5) + "\"";
        return kept + "Check.due(\"README.md: " + call.replace("\\", "\\\\").replace("\"", "\\\"") + "\", () -> "
            + (kept.isEmpty() ? call : told.group(2)) + ", " + want + ");";
    }

    private static Set<String> named(List<String> readme) {
        Set<String> all = new TreeSet<>();
        Matcher name = Pattern.compile("`(\\w+Test)`").matcher(String.join("\n", readme));
        while (name.find()) {
            all.add(name.group(1));
        }
        return all;
    }

    private static Set<String> testsOfProject() throws Exception {
        Set<String> all = new TreeSet<>();
        try (Stream<Path> files = Files.list(Path.of("src/test/java"))) {
            for (Path file : files.toList()) {
                String name = file.getFileName().toString().replace(".java", "");
                if (name.endsWith("Test")) {
                    all.add(name);
                }
            }
        }
        return all;
    }
}
