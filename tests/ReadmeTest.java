import java.io.ByteArrayOutputStream;
import java.io.File;
import java.io.IOException;
import java.io.PrintStream;
import java.net.URL;
import java.net.URLClassLoader;
import java.nio.charset.StandardCharsets;
import java.nio.file.Files;
import java.nio.file.Path;
import java.util.spi.ToolProvider;

/** The program in README.md compiles, and prints what README.md says. */
public final class ReadmeTest {
    private static final Path README = Path.of("README.md");

    public static void main(String[] args) throws Exception {
        String text = Files.readString(README, StandardCharsets.US_ASCII);
        Path directory = Files.createTempDirectory("readme");
        try {
            Check.same("the program compiles", compiled(block(text, "java"), directory), true);
            Check.same("what the program prints", printed(directory), block(text, "text"));
        } finally {
            remove(directory.toFile());
        }
        Check.end("ReadmeTest");
    }

    /** What stands between a fence with a word behind it and the next fence. */
    private static String block(String text, String word) {
        String fence = "```" + word + "\n";
        int start = text.indexOf(fence) + fence.length();
        Check.same("there is a block of " + word, text.contains(fence), true);
        return text.substring(start, text.indexOf("```", start));
    }

    private static boolean compiled(String program, Path directory) throws IOException {
        Path file = directory.resolve("Example.java");
        Files.writeString(file, program);
        return ToolProvider.findFirst("javac").orElseThrow().run(System.out, System.out, "-d", directory.toString(),
                "-cp", System.getProperty("java.class.path"), file.toString()) == 0;
    }

    private static String printed(Path directory) throws Exception {
        PrintStream before = System.out;
        ByteArrayOutputStream bytes = new ByteArrayOutputStream();
        try (URLClassLoader loader = new URLClassLoader(new URL[] {directory.toUri().toURL()})) {
            System.setOut(new PrintStream(bytes));
            loader.loadClass("Example").getMethod("main", String[].class).invoke(null, (Object) new String[0]);
        } finally {
            System.setOut(before);
        }
        return bytes.toString(StandardCharsets.US_ASCII).replace("\r\n", "\n");
    }

    private static void remove(File directory) {
        File[] files = directory.listFiles();
        for (File file : files == null ? new File[0] : files) {
            file.delete();
        }
        directory.delete();
    }
}
