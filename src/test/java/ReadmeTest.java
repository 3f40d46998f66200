import java.io.ByteArrayOutputStream;
import java.io.IOException;
import java.io.PrintStream;
import java.net.URL;
import java.net.URLClassLoader;
import java.nio.charset.StandardCharsets;
import java.nio.file.Files;
import java.nio.file.Path;
import java.util.Comparator;
import java.util.List;
import java.util.stream.Stream;
import javax.tools.JavaCompiler;
import javax.tools.ToolProvider;

/** The example of README.md compiles and prints what stands there; it is run from the project's folder. */
public final class ReadmeTest {
    public static void main(String[] args) throws Exception {
        String text = Files.readString(Path.of("README.md")).replace("\r", "");
        String want = block(text, "text");
        String got = run(block(text, "java"));
        boolean right = !want.isEmpty() && want.equals(got);
        if (!right) System.out.println("the example printed:\n" + got + "due is:\n" + want);
        System.exit(right ? 0 : 1);
    }

    /** The lines of the first block of that kind. */
    private static String block(String text, String kind) {
        String head = "\n```" + kind + "\n";
        int start = text.indexOf(head);
        int end = start < 0 ? -1 : text.indexOf("\n```\n", start + head.length() - 1);
        return end < 0 ? "" : text.substring(start + head.length(), end + 1);
    }

    private static String run(String example) throws Exception {
        Path folder = Files.createTempDirectory("readme");
        try {
            Path file = folder.resolve("Example.java");
            Files.writeString(file, example);
            JavaCompiler compiler = ToolProvider.getSystemJavaCompiler();
            String classes = System.getProperty("java.class.path");
            if (compiler.run(null, null, null, "-cp", classes, "-d", folder.toString(), file.toString()) != 0) {
                return "nothing: it does not compile\n";
            }
            return printed(folder);
        } finally {
            remove(folder);
        }
    }

    private static String printed(Path folder) throws Exception {
        PrintStream usual = System.out;
        ByteArrayOutputStream bytes = new ByteArrayOutputStream();
        System.setOut(new PrintStream(bytes, true, StandardCharsets.UTF_8));
        try (URLClassLoader loader = new URLClassLoader(new URL[] {folder.toUri().toURL()})) {
            Class<?> example = loader.loadClass("Example");
            example.getMethod("main", String[].class).invoke(null, (Object) new String[0]);
        } finally {
            System.setOut(usual);
        }
        return bytes.toString(StandardCharsets.UTF_8).replace("\r", "");
    }

    private static void remove(Path folder) throws IOException {
        List<Path> inside;
        try (Stream<Path> paths = Files.walk(folder)) {
            inside = paths.sorted(Comparator.reverseOrder()).toList();
        }
        for (Path path : inside) Files.delete(path);
    }
}
