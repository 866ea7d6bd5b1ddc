import java.io.IOException;
import java.lang.reflect.InvocationTargetException;
import java.nio.file.Files;
import java.nio.file.Path;
import java.util.regex.Matcher;
import java.util.regex.Pattern;
import javax.tools.ToolProvider;

/** What README.md shows is so: its Java is compiled, and each call answers what stands behind it. */
public final class ReadmeTest {
    private static final Pattern BLOCK = Pattern.compile("```java\n(.*?)```", Pattern.DOTALL);
    private static final Pattern SHOWN = Pattern.compile("(x\\.\\w+\\(.*\\)); +// (NONE|true|false|\\d+)(:.*)?");

    private ReadmeTest() {
    }

    public static void main(String[] args) throws IOException, ReflectiveOperationException {
        StringBuilder helpers = new StringBuilder();
        StringBuilder lines = new StringBuilder();
        Matcher block = BLOCK.matcher(Files.readString(Path.of("README.md")));
        while (block.find()) {
            boolean isHelper = block.group(1).contains("\nstatic ");
            (isHelper ? helpers : lines).append(isHelper ? block.group(1) : asked(block.group(1)));
        }
        run("final class Shown {\n" + helpers + "static void run() {\n" + lines + "}\n}\n");
        Check.close();
    }

    /** A line that shows a call and its answer, as a question. */
    private static String asked(String block) {
        StringBuilder asked = new StringBuilder();
        for (String line : block.split("\n")) {
            Matcher shown = SHOWN.matcher(line);
            boolean asks = shown.matches();
            Check.due("a call without its answer: " + line, line.startsWith("x.") && !asks, false);
            asked.append(asks ? "Check.due(\"" + shown.group(1) + "\", " + shown.group(1) + ", "
                + shown.group(2).replace("NONE", "SkiMountain.NONE") + ");" : line).append('\n');
        }
        return asked.toString();
    }

    private static void run(String program) throws IOException, ReflectiveOperationException {
        Path here = Path.of(System.getProperty("java.class.path"));
        Path file = here.resolve("Shown.java");
        Files.writeString(file, program);
        int code = ToolProvider.getSystemJavaCompiler().run(null, null, null, "-cp", here.toString(), "-d", here.toString(),
            file.toString());
        Check.due("what README.md shows can be compiled", code, 0);
        if (code == 0) {
            try {
                Class.forName("Shown").getDeclaredMethod("run").invoke(null);
            } catch (InvocationTargetException e) {
                throw new AssertionError("what README.md shows throws", e.getCause());
            }
        }
    }
}
