import java.io.ByteArrayOutputStream;
import java.io.IOException;
import java.io.PrintStream;
import java.net.URL;
import java.net.URLClassLoader;
import java.nio.charset.StandardCharsets;
import java.nio.file.Files;
import java.nio.file.Path;
import javax.tools.ToolProvider;

/** The example in README.md compiles, and prints what README.md says. The property "house" tells where the project is. */
public final class ReadmeTest {
    public static void main(String[] args) throws IOException, ReflectiveOperationException {
        String path = System.getProperty("house");
        if (path == null) System.out.println("no source is told: run with -Dhouse=.../PostHouse.java");
        else look(Files.readString(root(path).resolve("README.md")));
        Check.finish();
    }

    private static Path root(String house) {
        return Path.of(house).toAbsolutePath().normalize().getParent().resolve("../../..").normalize();
    }

    private static void look(String readme) throws IOException, ReflectiveOperationException {
        Path place = Files.createTempDirectory("readme");
        Path source = place.resolve("Example.java");
        try {
            Files.writeString(source, block(readme, "java"));
            String classes = System.getProperty("java.class.path");
            int answer = ToolProvider.getSystemJavaCompiler().run(null, null, null, "-cp", classes, "-d", place.toString(), source.toString());
            Check.due("README's example compiles", answer, 0);
            if (answer == 0) Check.due("README's example prints", printed(place), block(readme, "text"));
        } finally {
            Files.deleteIfExists(source);
            Files.deleteIfExists(place.resolve("Example.class"));
            Files.deleteIfExists(place);
        }
    }

    /** What stands between the first line that opens a block of a kind and the line that closes it. */
    private static String block(String text, String kind) {
        String open = "\n```" + kind + "\n";
        int first = text.indexOf(open);
        if (first < 0) return "";
        return text.substring(first + open.length(), text.indexOf("```", first + open.length()));
    }

    private static String printed(Path place) throws IOException, ReflectiveOperationException {
        ByteArrayOutputStream bytes = new ByteArrayOutputStream();
        PrintStream before = System.out;
        try (URLClassLoader loader = new URLClassLoader(new URL[] {place.toUri().toURL()})) {
            System.setOut(new PrintStream(bytes, true, StandardCharsets.UTF_8));
            loader.loadClass("Example").getMethod("main", String[].class).invoke(null, (Object) new String[0]);
        } finally {
            System.setOut(before);
        }
        return bytes.toString(StandardCharsets.UTF_8).replace(System.lineSeparator(), "\n");
    }
}
