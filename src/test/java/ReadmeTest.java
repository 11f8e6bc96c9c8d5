import java.io.ByteArrayOutputStream;
import java.io.IOException;
import java.io.PrintStream;
import java.net.URL;
import java.net.URLClassLoader;
import java.nio.file.Files;
import java.nio.file.Path;
import java.util.Comparator;
import java.util.stream.Stream;
import javax.tools.ToolProvider;

/** The program in README.md compiles, and prints what README.md says. */
public final class ReadmeTest {
    private static final Checks C = new Checks("ReadmeTest");

    public static void main(String[] args) throws Exception {
        String page = Files.readString(Path.of("README.md"));
        C.part("README.md");
        C.due("the program prints", printed(block(page, "java")), block(page, "text"));
        C.end();
    }

    /** The first block of the page that is told to be of this kind. */
    private static String block(String page, String kind) {
        String fence = "```" + kind + "\n";
        int start = page.indexOf(fence) + fence.length();
        return page.substring(start, page.indexOf("```", start));
    }

    private static String printed(String program) throws Exception {
        Path place = Files.createTempDirectory("readme");
        PrintStream old = System.out;
        ByteArrayOutputStream out = new ByteArrayOutputStream();
        try (URLClassLoader loader = new URLClassLoader(new URL[] {place.toUri().toURL()})) {
            Path file = Files.writeString(place.resolve("Example.java"), program);
            String classes = System.getProperty("java.class.path");
            int faults = ToolProvider.getSystemJavaCompiler().run(null, null, null,
                    "-Xlint:all", "-Werror", "-cp", classes, "-d", place.toString(), file.toString());
            C.due("javac", faults, 0);
            System.setOut(new PrintStream(out, true));
            loader.loadClass("Example").getMethod("main", String[].class).invoke(null, (Object) new String[0]);
        } finally {
            System.setOut(old);
            clear(place);
        }
        return out.toString();
    }

    private static void clear(Path place) throws IOException {
        try (Stream<Path> files = Files.walk(place)) {
            for (Path file : files.sorted(Comparator.reverseOrder()).toList()) {
                Files.delete(file);
            }
        }
    }
}
