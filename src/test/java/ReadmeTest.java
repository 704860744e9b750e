import java.io.ByteArrayOutputStream;
import java.io.IOException;
import java.io.PrintStream;
import java.lang.reflect.Method;
import java.lang.reflect.Modifier;
import java.net.URL;
import java.net.URLClassLoader;
import java.nio.charset.StandardCharsets;
import java.nio.file.Files;
import java.nio.file.Path;
import java.util.List;
import java.util.stream.Stream;
import javax.tools.ToolProvider;

/** README.md tells the truth: its example prints what it says, and it names every call and every test. */
public final class ReadmeTest {
    private static final Path TESTS = Path.of("src", "test", "java");

    public static void main(String[] args) throws Exception {
        String page = Files.readString(Path.of("README.md"));
        exampleRuns(block(page, "java"), block(page, "text").lines().toList());
        namesEveryCall(page);
        namesEveryTest(page);
        Check.end("ReadmeTest");
    }

    private static String block(String page, String language) {
        int begin = page.indexOf("```" + language + "\n");
        Check.due("there is a block of " + language, begin >= 0, true);
        int first = page.indexOf('\n', Math.max(begin, 0)) + 1;
        return page.substring(first, page.indexOf("```", first));
    }

    private static void exampleRuns(String program, List<String> due) throws Exception {
        Path room = Files.createTempDirectory("readme");
        Path source = Files.writeString(room.resolve("Example.java"), program);
        int code = ToolProvider.getSystemJavaCompiler().run(null, null, null, "-cp",
                System.getProperty("java.class.path"), "-d", room.toString(), source.toString());
        Check.due("the compiler", code, 0);
        List<String> got = code == 0 ? printed(room) : List.of();
        for (int line = 0; line < due.size(); line++) {
            String told = line < got.size() ? got.get(line) : "nothing";
            Check.due("\"" + told + "\" as \"" + due.get(line) + "\"", told.equals(due.get(line)), true);
        }
        Check.due("lines", got.size(), due.size());
        for (Path left : List.of(source, room.resolve("Example.class"), room)) {
            Files.deleteIfExists(left);
        }
    }

    private static List<String> printed(Path room) throws Exception {
        ByteArrayOutputStream bytes = new ByteArrayOutputStream();
        PrintStream before = System.out;
        try (URLClassLoader loader = new URLClassLoader(new URL[] {room.toUri().toURL()})) {
            System.setOut(new PrintStream(bytes, true, StandardCharsets.UTF_8));
            loader.loadClass("Example").getMethod("main", String[].class).invoke(null, (Object) new String[0]);
        } finally {
            System.setOut(before);
        }
        return bytes.toString(StandardCharsets.UTF_8).lines().toList();
    }

    private static void namesEveryCall(String page) {
        for (Method call : LabelStation.class.getDeclaredMethods()) {
            if (Modifier.isPublic(call.getModifiers())) {
                Check.due("README.md names " + call.getName(), page.contains("`" + call.getName() + "("), true);
            }
        }
    }

    private static void namesEveryTest(String page) throws IOException {
        try (Stream<Path> files = Files.list(TESTS)) {
            for (Path file : files.toList()) {
                String name = file.getFileName().toString().replace(".java", "");
                boolean named = page.contains("`" + name + "`");
                Check.due("README.md names " + name, named, name.endsWith("Test") || named);
            }
        }
    }
}
