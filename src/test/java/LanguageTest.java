import java.io.IOException;
import java.nio.file.Files;
import java.nio.file.Path;
import java.util.List;
import java.util.regex.Matcher;
import java.util.regex.Pattern;

/** Rules of ../shared/LANGUAGE.md that can be seen in the words of the source; run from the project's directory. */
public final class LanguageTest {
    private static final Path SOURCE = Path.of("src", "main", "java", "LabelStation.java");

    /** What the class has no use for, though some of it is allowed in places. */
    private static final String[] NOT_USED = {
        "package", "catch", "finally", "synchronized", "assert", "protected", "volatile", "transient", "native",
        "->", "::", "float", "Object", "Thread", "Random", "Runnable", "nanoTime", "currentTimeMillis", "java.io",
        "getClass", "getMessage", "hashCode", "instanceof", "Exact", "var ", "interface", "while (true)", "for (;;)",
    };

    private static final String THROWN = "throw new (IllegalArgumentException|IllegalStateException|"
            + "IndexOutOfBoundsException|NoSuchElementException)\\(\"[^\"]*\"\\);";

    public static void main(String[] args) throws IOException {
        List<String> lines = Files.readAllLines(SOURCE);
        String code = String.join("\n", lines).replaceAll("(?s)/\\*.*?\\*/", "").replaceAll("//[^\n]*", "");
        wordsThatAreNotUsed(code);
        importsAndThrows(code);
        staticFieldsAreFinal(code);
        methodsAreShort(lines);
        Check.end("LanguageTest");
    }

    private static void wordsThatAreNotUsed(String code) {
        for (String word : NOT_USED) {
            Check.due("the source has " + word, code.contains(word), false);
        }
        Matcher system = Pattern.compile("System\\.(\\w+)").matcher(code);
        while (system.find()) {
            Check.due("System." + system.group(1), system.group(1).equals("arraycopy"), true);
        }
    }

    private static void importsAndThrows(String code) {
        Matcher imported = Pattern.compile("import ([^;]*);").matcher(code);
        while (imported.find()) {
            Check.due(imported.group(), imported.group(1).equals("java.util.NoSuchElementException"), true);
        }
        Matcher thrown = Pattern.compile("throw [^;]*;").matcher(code);
        while (thrown.find()) {
            Check.due(thrown.group(), thrown.group().matches(THROWN), true);
        }
    }

    private static void staticFieldsAreFinal(String code) {
        Matcher field = Pattern.compile("static (?!final )[^;{(]*[;=]").matcher(code);
        Check.due("a static field that is not final", field.find(), false);
        Check.due("classes", Pattern.compile("\\bclass \\w+").matcher(code).results().count() <= 12, true);
    }

    private static void methodsAreShort(List<String> lines) {
        int begin = -1;
        for (int line = 0; line < lines.size(); line++) {
            String text = lines.get(line);
            String indent = text.substring(0, text.length() - text.stripLeading().length());
            boolean opens = text.endsWith("{") && text.contains("(") && !text.contains(" class ");
            if (opens && (indent.length() == 4 || indent.length() == 8 && !text.matches(" *(if|for|switch|while|\\}).*"))) {
                begin = line;
            }
            if (begin >= 0 && text.equals(indent + "}") && indent.length() <= 8) {
                Check.due("the method that begins in line " + (begin + 1) + " is short", line - begin <= 60, true);
            }
        }
    }
}
