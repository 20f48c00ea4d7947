import java.io.IOException;
import java.lang.reflect.Method;
import java.lang.reflect.Modifier;
import java.nio.file.DirectoryStream;
import java.nio.file.Files;
import java.nio.file.Path;
import java.util.regex.Matcher;
import java.util.regex.Pattern;
import javax.tools.ToolProvider;

/** README.md's example prints what README.md says, and README.md names every call and every test. */
public final class ReadmeTest {
    public static void main(String[] args) throws IOException, InterruptedException {
        String readme = Files.readString(Path.of("README.md"));
        example(readme);
        names(readme);
        Check.finish();
    }

    private static void example(String readme) throws IOException, InterruptedException {
        Path directory = Files.createTempDirectory("readme");
        Path source = directory.resolve("Example.java");
        Path classFile = directory.resolve("Example.class");
        String classes = System.getProperty("java.class.path");
        Files.writeString(source, block(readme, "java"));
        int compiled = ToolProvider.getSystemJavaCompiler().run(null, null, null,
                "-cp", classes, "-d", directory.toString(), source.toString());
        Check.same("the example compiles", 0, compiled);
        Process run = new ProcessBuilder(Path.of(System.getProperty("java.home"), "bin", "java").toString(),
                "-cp", classes + System.getProperty("path.separator") + directory, "Example")
                .redirectErrorStream(true).start();
        String printed = new String(run.getInputStream().readAllBytes()).replace("\r\n", "\n");
        Check.same("the example ends well", 0, run.waitFor());
        Check.same("what the example prints", block(readme, "text").getBytes(), printed.getBytes());
        Files.deleteIfExists(classFile);
        Files.delete(source);
        Files.delete(directory);
    }

    private static String block(String readme, String kind) {
        Matcher matcher = Pattern.compile("(?s)```" + kind + "\n(.*?)```").matcher(readme);
        Check.same("README.md has a block of " + kind, true, matcher.find());
        return matcher.group(1);
    }

    private static void names(String readme) throws IOException {
        for (Method method : CurveSuite.class.getDeclaredMethods()) {
            if (Modifier.isPublic(method.getModifiers())) {
                Check.same("README.md names " + method.getName(), true, readme.contains("`" + method.getName() + "("));
            }
        }
        try (DirectoryStream<Path> tests = Files.newDirectoryStream(Path.of("src/test/java"), "*.java")) {
            for (Path test : tests) {
                String name = test.getFileName().toString().replace(".java", "");
                Check.same("README.md names " + name, true, readme.contains("`" + name + "`"));
            }
        }
    }
}
