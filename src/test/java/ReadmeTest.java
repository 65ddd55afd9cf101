import java.io.IOException;
import java.io.UncheckedIOException;
import java.net.URL;
import java.net.URLClassLoader;
import java.nio.file.Files;
import java.nio.file.Path;
import java.util.Comparator;
import java.util.List;
import java.util.regex.Matcher;
import java.util.regex.Pattern;
import java.util.stream.Stream;
import javax.tools.ToolProvider;

/** The example of README.md compiles as it stands there, and each call answers what the words behind it say. */
public final class ReadmeTest {
    private static final Pattern BLOCK = Pattern.compile("(?s)```java\n(.*?)```");
    private static final Pattern TOLD = Pattern.compile("(x\\.\\w+\\(.*\\));\\s*// (-?\\d+|NONE|BAD|NO|FULL)(:.*)?");
    private static final List<String> NAMES = List.of("NONE", "BAD", "NO", "FULL");

    private ReadmeTest() {
    }

    public static void main(String[] args) throws IOException, ReflectiveOperationException {
        Matcher block = BLOCK.matcher(Files.readString(Path.of("README.md")));
        Check.holds("README.md has an example", block.find());
        int told = run(block.group(1));
        Check.holds("the example tells " + told + " answers", told >= 10);
        Check.end();
    }

    private static int run(String example) throws IOException, ReflectiveOperationException {
        StringBuilder code = new StringBuilder("public class Example { public static void main(String[] args) {\n");
        int told = 0;
        for (String line : example.split("\n")) {
            Matcher call = TOLD.matcher(line);
            if (call.matches()) {
                told++;
                String want = NAMES.contains(call.group(2)) ? "JoinMaps." + call.group(2) : call.group(2);
                code.append("ReadmeTest.due(\"").append(call.group(1)).append("\", ").append(call.group(1)).append(", ")
                        .append(want).append(");\n");
            } else {
                code.append(line).append('\n');
            }
        }
        runCode(code.append("}}\n").toString());
        return told;
    }

    /** Called by the example's code, which stands in a class of its own. */
    public static void due(String call, long got, long want) {
        Check.due("README.md: " + call, got, want);
    }

    private static void runCode(String code) throws IOException, ReflectiveOperationException {
        Path room = Files.createTempDirectory("readme");
        try {
            Path file = Files.writeString(room.resolve("Example.java"), code);
            int compiled = ToolProvider.getSystemJavaCompiler().run(null, null, null, "-d", room.toString(),
                    "-cp", System.getProperty("java.class.path"), file.toString());
            Check.due("README.md: javac", compiled, 0);
            if (compiled == 0) {
                try (URLClassLoader loader = new URLClassLoader(new URL[] {room.toUri().toURL()})) {
                    loader.loadClass("Example").getMethod("main", String[].class).invoke(null, (Object) new String[0]);
                }
            }
        } finally {
            remove(room);
        }
    }

    private static void remove(Path room) throws IOException {
        try (Stream<Path> all = Files.walk(room)) {
            all.sorted(Comparator.reverseOrder()).forEach(path -> {
                try {
                    Files.delete(path);
                } catch (IOException e) {
                    throw new UncheckedIOException(e);
                }
            });
        }
    }
}
