import java.io.ByteArrayOutputStream;
import java.io.IOException;
import java.io.InputStream;
import java.lang.reflect.Method;
import java.lang.reflect.Modifier;
import java.nio.charset.StandardCharsets;
import java.nio.file.Files;
import java.nio.file.Path;
import java.util.List;
import java.util.stream.Stream;
import javax.tools.ToolProvider;

/** README.md: its example compiles and prints what stands there; no call and no test is missing on it. */
public final class ReadmeTest {
    private static final Check CHECK = new Check();

    public static void main(String[] args) throws IOException, InterruptedException {
        String page = Files.readString(Path.of("README.md"));
        example(page);
        for (Method method : SoundHarbour.class.getDeclaredMethods()) {
            if (Modifier.isPublic(method.getModifiers())) {
                CHECK.is("the page has the call " + method.getName(),
                        page.contains("| `" + method.getName() + "("), true);
            }
        }
        for (String test : tests()) {
            CHECK.is("the page has the test " + test, page.contains("`" + test + "`"), true);
        }
        CHECK.end();
    }

    private static List<String> tests() throws IOException {
        try (Stream<Path> files = Files.list(Path.of("src/test/java"))) {
            return files.map(file -> file.getFileName().toString()).filter(name -> name.endsWith("Test.java"))
                    .map(name -> name.substring(0, name.length() - ".java".length())).sorted().toList();
        }
    }

    private static void example(String page) throws IOException, InterruptedException {
        Path work = Files.createTempDirectory("readme");
        Path source = work.resolve("Example.java");
        Files.writeString(source, block(page, "java"));
        String classes = System.getProperty("java.class.path");
        int compiled = ToolProvider.getSystemJavaCompiler().run(null, null, null,
                "-cp", classes, "-d", work.toString(), source.toString());
        CHECK.is("javac of the example", compiled, 0);
        if (compiled == 0) {
            String[] got = printed(work, classes).split("\n");
            String[] due = block(page, "text").split("\n");
            CHECK.is("lines that the example prints", got.length, due.length);
            for (int i = 0; i < got.length && i < due.length; i++) {
                CHECK.is("'" + got[i] + "' for '" + due[i] + "'", got[i].equals(due[i]), true);
            }
        }
        for (String name : List.of("Example.class", "Example.java", "")) {
            Files.deleteIfExists(work.resolve(name));
        }
    }

    private static String printed(Path work, String classes) throws IOException, InterruptedException {
        Path java = Path.of(System.getProperty("java.home"), "bin", "java");
        String path = work + System.getProperty("path.separator") + classes;
        Process process = new ProcessBuilder(java.toString(), "-cp", path, "Example").redirectErrorStream(true).start();
        ByteArrayOutputStream all = new ByteArrayOutputStream();
        try (InputStream from = process.getInputStream()) {
            from.transferTo(all);
        }
        CHECK.is("the example's exit code", process.waitFor(), 0);
        return all.toString(StandardCharsets.UTF_8).replace("\r", "");
    }

    /** The first fenced block of a kind. */
    private static String block(String page, String kind) {
        String fence = "```" + kind + "\n";
        int from = page.indexOf(fence);
        int to = from < 0 ? -1 : page.indexOf("\n```", from);
        CHECK.is("the page has a block of " + kind, to > from && from >= 0, true);
        return to < 0 ? "" : page.substring(from + fence.length(), to);
    }
}
