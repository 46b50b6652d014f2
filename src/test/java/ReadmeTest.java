import java.io.ByteArrayOutputStream;
import java.io.IOException;
import java.io.PrintStream;
import java.net.URL;
import java.net.URLClassLoader;
import java.nio.file.Files;
import java.nio.file.Path;
import java.util.regex.Matcher;
import java.util.regex.Pattern;
import javax.tools.ToolProvider;

/** The program that README.md shows is compiled and run as it stands there, and prints what stands there below it. */
public final class ReadmeTest {
    private ReadmeTest() {
    }

    public static void main(String[] args) throws Exception {
        String readme = Files.readString(Path.of(System.getProperty("readme")));
        String due = block(readme, "text");
        String got = printed(block(readme, "java"));
        if (!got.equals(due)) {
            System.out.println("README.md says\n" + due + "but its program prints\n" + got);
            System.exit(1);
        }
        System.out.println("ReadmeTest: " + due.lines().count() + " lines right, 0 wrong");
    }

    private static String block(String readme, String kind) throws IOException {
        Matcher m = Pattern.compile("(?ms)^```" + kind + "\n(.*?)^```$").matcher(readme);
        if (!m.find()) {
            throw new IOException("README.md has no block of " + kind);
        }
        return m.group(1);
    }

    private static String printed(String program) throws Exception {
        Path room = Files.createTempDirectory("readme");
        Path file = room.resolve("Example.java");
        try {
            Files.writeString(file, program);
            String classes = System.getProperty("java.class.path");
            int code = ToolProvider.getSystemJavaCompiler()
                    .run(null, null, null, "-cp", classes, "-d", room.toString(), file.toString());
            if (code != 0) {
                throw new IOException("the program of README.md does not compile");
            }
            return run(room.toUri().toURL());
        } finally {
            Files.deleteIfExists(room.resolve("Example.class"));
            Files.deleteIfExists(file);
            Files.deleteIfExists(room);
        }
    }

    private static String run(URL room) throws Exception {
        PrintStream usual = System.out;
        ByteArrayOutputStream out = new ByteArrayOutputStream();
        try (URLClassLoader loader = new URLClassLoader(new URL[] {room})) {
            System.setOut(new PrintStream(out, true));
            loader.loadClass("Example").getMethod("main", String[].class).invoke(null, (Object) new String[0]);
        } finally {
            System.setOut(usual);
        }
        return out.toString().replace(System.lineSeparator(), "\n");
    }
}
