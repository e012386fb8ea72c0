import java.io.IOException;
import java.io.StringWriter;
import java.lang.reflect.InvocationTargetException;
import java.net.URL;
import java.net.URLClassLoader;
import java.nio.charset.StandardCharsets;
import java.nio.file.Files;
import java.nio.file.Path;
import java.util.Comparator;
import java.util.List;
import java.util.concurrent.Callable;
import java.util.regex.Matcher;
import java.util.regex.Pattern;
import java.util.stream.Stream;
import javax.tools.JavaCompiler;
import javax.tools.ToolProvider;

/** Runs the examples of README.md: each call there must answer what stands behind it. */
public final class ReadmeTest {
    private static final Path README = Path.of("README.md");
    private static final Pattern ANSWERED =
            Pattern.compile("(bench\\..*);\\s*// (NONE|throws \\w+|-?\\d+(?:\\.\\d+)?)(?:: .*)?");
    private static final int LEAST_ANSWERS = 40;

    public static void main(String[] args) throws Exception {
        Path folder = Files.createTempDirectory("readme");
        try {
            run(folder);
        } finally {
            delete(folder);
        }
        Check.finish();
    }

    /** Looks at what an example's call answers, as the README tells answers; the written class calls it. */
    public static void answered(String call, String due, Callable<Object> example) {
        String got;
        try {
            Object answer = example.call();
            got = answer.equals(ClickBench.NONE) ? "NONE" : answer.toString();
        } catch (Exception e) {
            got = "throws " + e.getClass().getSimpleName();
        }
        Check.due("README: " + call, due, got);
    }

    private static void run(Path folder) throws Exception {
        int answers = write(folder.resolve("Examples.java"));
        Check.due("README has at least " + LEAST_ANSWERS + " answers", 1, answers >= LEAST_ANSWERS ? 1 : 0);
        JavaCompiler compiler = ToolProvider.getSystemJavaCompiler();
        int failure = compiler.run(null, System.out, System.out, "-cp", System.getProperty("java.class.path"),
                "-d", folder.toString(), folder.resolve("Examples.java").toString());
        Check.due("README's examples compile", 0, failure);
        if (failure == 0) {
            start(folder);
        }
    }

    private static void start(Path folder) throws Exception {
        try (URLClassLoader loader = new URLClassLoader(new URL[] {folder.toUri().toURL()})) {
            loader.loadClass("Examples").getMethod("run").invoke(null);
        } catch (InvocationTargetException e) {
            Check.due("README's examples throw", "nothing", e.getCause().toString());
        }
    }

    /** Writes the examples as a class that looks at their answers; returns how many it looks at. */
    private static int write(Path file) throws IOException {
        StringWriter code = new StringWriter();
        code.write("public class Examples {\npublic static void run() {\n");
        int answers = 0;
        boolean isCode = false;
        for (String line : Files.readAllLines(README, StandardCharsets.UTF_8)) {
            Matcher answered = ANSWERED.matcher(line);
            if (line.startsWith("```")) {
                isCode = line.equals("```java");
            } else if (isCode && answered.matches()) {
                String call = answered.group(1);
                String quoted = call.replace("\\", "\\\\").replace("\"", "\\\"");
                code.write("ReadmeTest.answered(\"" + quoted + "\", \"" + answered.group(2) + "\", () -> " + call + ");\n");
                answers++;
            } else if (isCode) {
                Check.due("README tells an answer of: " + line, 0, line.startsWith("bench.") ? 1 : 0);
                code.write(line + "\n");
            }
        }
        code.write("}\n}\n");
        Files.writeString(file, code.toString());
        return answers;
    }

    private static void delete(Path folder) throws IOException {
        List<Path> all;
        try (Stream<Path> walk = Files.walk(folder)) {
            all = walk.sorted(Comparator.reverseOrder()).toList();
        }
        for (Path path : all) {
            Files.delete(path);
        }
    }
}
