import java.io.IOException;
import java.lang.reflect.InvocationTargetException;
import java.net.URL;
import java.net.URLClassLoader;
import java.nio.file.Files;
import java.nio.file.Path;
import java.util.ArrayList;
import java.util.Comparator;
import java.util.List;
import java.util.regex.Matcher;
import java.util.regex.Pattern;
import java.util.stream.Stream;
import javax.tools.ToolProvider;

/** What README.md says that its lines answer is what they answer. */
public final class ReadmeTest {
    private static final Check CHECK = new Check("ReadmeTest");
    private static final Pattern BLOCK = Pattern.compile("(?s)```java\\n(.*?)```");
    private static final Pattern ANSWERED = Pattern.compile("(x\\..*\\));\\s*// (.*)");

    public static void main(String[] args) throws Exception {
        List<String> blocks = new ArrayList<>();
        Matcher block = BLOCK.matcher(Files.readString(Path.of("README.md")));
        while (block.find()) {
            blocks.add(block.group(1));
        }
        CHECK.due("a helper and a run of calls", 2, blocks::size);
        Path work = Files.createTempDirectory("readme");
        try {
            compile(work, program(blocks.get(0), blocks.get(1)));
            List<String[]> rows = run(work);
            CHECK.due("calls with answers", true, () -> rows.size() > 10);
            for (String[] row : rows) {
                CHECK.due(row[0], row[1], () -> row[2]);
            }
        } finally {
            remove(work);
        }
        CHECK.end();
    }

    private static String program(String helper, String calls) {
        StringBuilder s = new StringBuilder("public class Example {\n").append(helper)
                .append("public static void run(java.util.List<String[]> rows) {\n");
        for (String line : calls.split("\n")) {
            Matcher m = ANSWERED.matcher(line);
            if (m.matches()) {
                s.append("{ String got; try { got = String.valueOf(").append(m.group(1))
                        .append("); } catch (RuntimeException e) { got = \"throws \" + e.getClass().getSimpleName(); }")
                        .append(" rows.add(new String[] {\"").append(m.group(1)).append("\", \"")
                        .append(m.group(2)).append("\", got}); }\n");
            } else {
                s.append(line).append('\n');
            }
        }
        return s.append("}\n}\n").toString();
    }

    private static void compile(Path work, String program) throws IOException {
        Path file = Files.writeString(work.resolve("Example.java"), program);
        int failed = ToolProvider.getSystemJavaCompiler().run(null, null, null, "-cp",
                System.getProperty("java.class.path"), "-d", work.toString(), file.toString());
        CHECK.due("the lines do not compile", 0, () -> failed);
    }

    private static List<String[]> run(Path work) throws IOException, ReflectiveOperationException {
        List<String[]> rows = new ArrayList<>();
        try (URLClassLoader loader = new URLClassLoader(new URL[] {work.toUri().toURL()})) {
            loader.loadClass("Example").getMethod("run", List.class).invoke(null, rows);
        } catch (ClassNotFoundException | InvocationTargetException e) {
            CHECK.due("the lines do not run: " + e, true, () -> false);
        }
        return rows;
    }

    private static void remove(Path work) throws IOException {
        try (Stream<Path> files = Files.walk(work)) {
            for (Path file : files.sorted(Comparator.reverseOrder()).toList()) {
                Files.delete(file);
            }
        }
    }
}
