import java.io.ByteArrayOutputStream;
import java.io.IOException;
import java.io.PrintStream;
import java.lang.reflect.Method;
import java.lang.reflect.Modifier;
import java.net.URL;
import java.net.URLClassLoader;
import java.nio.charset.StandardCharsets;
import java.nio.file.Files;
import java.nio.file.Path;
import java.util.Comparator;
import java.util.List;
import java.util.stream.Stream;
import javax.tools.ToolProvider;

/** README.md is true: its program prints what it says, and it names each call and each test. */
public final class ReadmeTest {
    private ReadmeTest() { }

    public static void main(String[] args) throws Exception {
        Check check = new Check("ReadmeTest");
        String page = Files.readString(Path.of("README.md"));
        check.due("what the program prints", printed(block(page, "java")), block(page, "text"));
        for (Method m : SandRails.class.getDeclaredMethods()) {
            if (Modifier.isPublic(m.getModifiers())) {
                check.due("README.md names the call " + m.getName(), page.contains("`" + m.getName() + "`"), true);
            }
        }
        for (String test : tests()) {
            check.due("README.md names the test " + test, page.contains("`" + test + "`"), true);
        }
        check.due("README.md names the script of all tests", page.contains("`.ci/run`"), true);
        check.end();
    }

    /** The first block of a language in the page. */
    private static String block(String page, String language) {
        String begin = "\n```" + language + "\n";
        int at = page.indexOf(begin) + begin.length();
        return page.substring(at, page.indexOf("```", at));
    }

    private static String printed(String program) throws Exception {
        Path directory = Files.createTempDirectory("readme");
        try {
            Path source = Files.writeString(directory.resolve("Journey.java"), program);
            int code = ToolProvider.getSystemJavaCompiler().run(null, null, null, "-Xlint:all", "-Werror",
                "-d", directory.toString(), "-cp", System.getProperty("java.class.path"), source.toString());
            return code == 0 ? ran(directory) : "nothing: it does not compile";
        } finally {
            remove(directory);
        }
    }

    private static String ran(Path directory) throws Exception {
        PrintStream was = System.out;
        ByteArrayOutputStream bytes = new ByteArrayOutputStream();
        try (URLClassLoader loader = new URLClassLoader(new URL[] {directory.toUri().toURL()})) {
            System.setOut(new PrintStream(bytes, true, StandardCharsets.UTF_8));
            loader.loadClass("Journey").getMethod("main", String[].class).invoke(null, (Object) new String[0]);
        } finally {
            System.setOut(was);
        }
        return bytes.toString(StandardCharsets.UTF_8).replace(System.lineSeparator(), "\n");
    }

    private static void remove(Path directory) throws IOException {
        try (Stream<Path> paths = Files.walk(directory)) {
            for (Path path : paths.sorted(Comparator.reverseOrder()).toList()) {
                Files.delete(path);
            }
        }
    }

    private static List<String> tests() throws IOException {
        try (Stream<Path> paths = Files.list(Path.of("src/test/java"))) {
            return paths.map(p -> p.getFileName().toString()).filter(n -> n.endsWith("Test.java"))
                .map(n -> n.substring(0, n.length() - ".java".length())).sorted().toList();
        }
    }
}
