import java.io.ByteArrayOutputStream;
import java.io.IOException;
import java.io.PrintStream;
import java.net.URL;
import java.net.URLClassLoader;
import java.nio.charset.StandardCharsets;
import java.nio.file.Files;
import java.nio.file.Path;
import javax.tools.JavaCompiler;
import javax.tools.ToolProvider;

/** The example of README.md compiles beside the class and prints what README.md says. */
public final class ReadmeTest {
    public static void main(String[] args) throws Exception {
        String readme = Files.readString(Path.of("README.md"), StandardCharsets.UTF_8);
        Path folder = Files.createTempDirectory("readme");
        try {
            String printed = run(folder, block(readme, "java"));
            String want = block(readme, "text");
            boolean same = printed.equals(want);
            if (!same) {
                System.out.println("the example printed:\n" + printed);
            }
            Check.holds("the example of README.md prints what stands there", same);
        } finally {
            delete(folder);
        }
        Check.end();
    }

    /** What stands between the first fence of this kind and its end. */
    private static String block(String readme, String kind) {
        String fence = "```" + kind + "\n";
        int from = readme.indexOf(fence);
        Check.holds("README.md has a block of " + kind, from >= 0);
        int begin = from + fence.length();
        return readme.substring(begin, readme.indexOf("```", begin));
    }

    private static String run(Path folder, String code) throws Exception {
        Path source = folder.resolve("Example.java");
        Files.writeString(source, code, StandardCharsets.UTF_8);
        JavaCompiler compiler = ToolProvider.getSystemJavaCompiler();
        int exit = compiler.run(null, null, null, "-d", folder.toString(),
            "-cp", System.getProperty("java.class.path"), source.toString());
        Check.due("exit code of javac", exit, 0);
        URL[] places = {folder.toUri().toURL()};
        PrintStream old = System.out;
        ByteArrayOutputStream out = new ByteArrayOutputStream();
        try (URLClassLoader loader = new URLClassLoader(places, ReadmeTest.class.getClassLoader());
            PrintStream caught = new PrintStream(out, true, StandardCharsets.UTF_8)) {
            System.setOut(caught);
            Class<?> example = loader.loadClass("Example");
            example.getMethod("main", String[].class).invoke(null, (Object) new String[0]);
        } finally {
            System.setOut(old);
        }
        return out.toString(StandardCharsets.UTF_8).replace(System.lineSeparator(), "\n");
    }

    private static void delete(Path folder) throws IOException {
        try (var files = Files.list(folder)) {
            for (Path file : (Iterable<Path>) files::iterator) {
                Files.delete(file);
            }
        }
        Files.delete(folder);
    }
}
