import java.io.ByteArrayOutputStream;
import java.io.File;
import java.io.IOException;
import java.io.PrintStream;
import java.net.URISyntaxException;
import java.net.URL;
import java.net.URLClassLoader;
import java.nio.file.Files;
import java.nio.file.Path;
import java.util.ArrayList;
import java.util.List;
import java.util.spi.ToolProvider;

/** The example of README.md compiles, and prints what stands behind its lines. */
public final class ReadmeTest {
    private final Check check = new Check();

    private static String example() throws IOException {
        String readme = Files.readString(Path.of("README.md"));
        int from = readme.indexOf("```java") + 7;
        return readme.substring(from, readme.indexOf("```", from));
    }

    /** The answers behind the lines that print. */
    private static List<String> due(String example) {
        List<String> answers = new ArrayList<>();
        for (String line : example.split("\n")) {
            if (line.contains("println(")) {
                answers.add(line.substring(line.indexOf("//") + 2).trim());
            }
        }
        return answers;
    }

    private List<String> printed(String example) throws IOException, ReflectiveOperationException, URISyntaxException {
        Path dir = Files.createTempDirectory("readme");
        Path source = dir.resolve("Example.java");
        Files.writeString(source, example);
        File program = new File(ReadingChart.class.getProtectionDomain().getCodeSource().getLocation().toURI());
        int code = ToolProvider.findFirst("javac").orElseThrow().run(System.out, System.out, "-cp", program.getPath(),
                "-d", dir.toString(), source.toString());
        check.that("the example does not compile", code == 0);
        ByteArrayOutputStream out = new ByteArrayOutputStream();
        PrintStream before = System.out;
        try (URLClassLoader loader = new URLClassLoader(new URL[] {dir.toUri().toURL()})) {
            System.setOut(new PrintStream(out, true));
            loader.loadClass("Example").getMethod("main", String[].class).invoke(null, (Object) new String[0]);
        } finally {
            System.setOut(before);
            Files.deleteIfExists(dir.resolve("Example.class"));
            Files.delete(source);
            Files.delete(dir);
        }
        return out.toString().lines().toList();
    }

    public static void main(String[] args) throws IOException, ReflectiveOperationException, URISyntaxException {
        ReadmeTest test = new ReadmeTest();
        String example = example();
        List<String> due = due(example);
        List<String> printed = test.printed(example);
        test.check.that("the example has no answers", due.size() >= 10);
        test.check.that("the example prints " + printed + ", README.md says " + due, printed.equals(due));
        test.check.end();
    }
}
