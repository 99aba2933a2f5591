import java.io.ByteArrayOutputStream;
import java.io.IOException;
import java.io.PrintStream;
import java.net.URL;
import java.net.URLClassLoader;
import java.nio.file.DirectoryStream;
import java.nio.file.Files;
import java.nio.file.Path;
import java.util.ArrayList;
import java.util.List;
import java.util.Set;
import java.util.TreeSet;
import java.util.regex.Matcher;
import java.util.regex.Pattern;
import javax.tools.ToolProvider;

/** README.md: its example compiles and prints what its comments say, and its table names every test. */
public final class ReadmeTest {
    private static final Path README = Path.of("README.md");
    private static final Path TESTS = Path.of("src/test/java");

    public static void main(String[] args) throws Exception {
        String readme = Files.readString(README);
        example(readme.substring(readme.indexOf("```java\n") + 8));
        table(readme);
        Checks.end();
    }

    private static void example(String text) throws Exception {
        String program = text.substring(0, text.indexOf("```"));
        List<String> due = new ArrayList<>();
        for (String line : program.split("\n")) {
            if (line.contains("System.out.println(")) {
                due.add(answerIn(line.substring(line.indexOf("// ") + 3)));
            }
        }
        String[] printed = run(program).split("\n");
        Checks.due(printed.length, due.size());
        for (int i = 0; i < printed.length; i++) {
            Checks.due(printed[i], due.get(i));
        }
    }

    /** The number with which a comment begins, or else all of it. */
    private static String answerIn(String comment) {
        Matcher number = Pattern.compile("-?[0-9]+\\b").matcher(comment);
        return number.lookingAt() ? number.group() : comment;
    }

    private static String run(String program) throws Exception {
        Path directory = Files.createTempDirectory("readme");
        Path source = directory.resolve("Example.java");
        Files.writeString(source, program);
        int failed = ToolProvider.getSystemJavaCompiler().run(null, null, null, "-Xlint:all", "-Werror", "-d",
                directory.toString(), "-cp", System.getProperty("java.class.path"), source.toString());
        Checks.due(failed, 0);
        ByteArrayOutputStream bytes = new ByteArrayOutputStream();
        PrintStream console = System.out;
        try (URLClassLoader loader = new URLClassLoader(new URL[] {directory.toUri().toURL()})) {
            System.setOut(new PrintStream(bytes, true));
            loader.loadClass("Example").getMethod("main", String[].class).invoke(null, (Object) new String[0]);
        } finally {
            System.setOut(console);
            delete(directory);
        }
        return bytes.toString().replace("\r", "");
    }

    private static void delete(Path directory) throws IOException {
        try (DirectoryStream<Path> files = Files.newDirectoryStream(directory)) {
            for (Path file : files) {
                Files.delete(file);
            }
        }
        Files.delete(directory);
    }

    private static void table(String readme) throws IOException {
        Set<String> named = new TreeSet<>();
        Matcher rows = Pattern.compile("(?m)^\\|.*?\\|").matcher(readme);
        while (rows.find()) {
            Matcher names = Pattern.compile("`(\\w+Test)`").matcher(rows.group());
            while (names.find()) {
                named.add(names.group(1));
            }
        }
        Set<String> present = new TreeSet<>();
        try (DirectoryStream<Path> files = Files.newDirectoryStream(TESTS, "*Test.java")) {
            for (Path file : files) {
                present.add(file.getFileName().toString().replace(".java", ""));
            }
        }
        Checks.due(named, present);
    }
}
