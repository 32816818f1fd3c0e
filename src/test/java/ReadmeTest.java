import java.io.IOException;
import java.net.URL;
import java.net.URLClassLoader;
import java.nio.file.Files;
import java.nio.file.Path;
import java.util.ArrayList;
import java.util.List;
import java.util.regex.Matcher;
import java.util.regex.Pattern;
import java.util.stream.Stream;
import javax.tools.ToolProvider;

/** README.md's own program, compiled and run as it stands there: each call answers what stands behind it. */
final class ReadmeTest {
    private static final Path README = Path.of("README.md");
    private static final Pattern CALL = Pattern.compile("(x\\.\\w+\\(.*\\)); *// (-?\\d+).*");
    private static final String BEGIN = "```java", END = "```";

    public static void main(String[] args) throws Exception {
        Due due = new Due("ReadmeTest");
        List<String> code = codeOf(Files.readAllLines(README));
        List<Long> answers = new ArrayList<>();
        Path work = Files.createTempDirectory("readme");
        try {
            compile(work, code);
            run(work, answers);
        } finally {
            remove(work);
        }
        int calls = 0;
        for (String line : code) {
            Matcher call = CALL.matcher(line);
            if (call.matches()) {
                due.is(call.group(1), answers.get(calls), Long.parseLong(call.group(2)));
                calls++;
            }
        }
        due.end();
    }

    private static List<String> codeOf(List<String> lines) {
        List<String> code = new ArrayList<>();
        boolean inside = false;
        for (String line : lines) {
            if (line.equals(BEGIN)) {
                inside = true;
            } else if (line.equals(END)) {
                inside = false;
            } else if (inside) {
                code.add(line);
            }
        }
        return code;
    }

    /** A class whose calls hand their answers over, one by one. */
    private static void compile(Path work, List<String> code) throws IOException {
        StringBuilder source = new StringBuilder("public final class Readme {\n");
        source.append("public static void run(java.util.List<Long> answers) {\n");
        for (String line : code) {
            Matcher call = CALL.matcher(line);
            source.append(call.matches() ? "answers.add((long) " + call.group(1) + ");" : line).append('\n');
        }
        source.append("}\n}\n");
        Path file = work.resolve("Readme.java");
        Files.writeString(file, source);
        int failed = ToolProvider.getSystemJavaCompiler().run(null, null, null,
            "-cp", System.getProperty("java.class.path"), "-d", work.toString(), file.toString());
        if (failed != 0) {
            throw new IllegalStateException("README.md's program does not compile");
        }
    }

    private static void run(Path work, List<Long> answers) throws Exception {
        try (URLClassLoader loader = new URLClassLoader(new URL[] {work.toUri().toURL()})) {
            loader.loadClass("Readme").getMethod("run", List.class).invoke(null, answers);
        }
    }

    private static void remove(Path work) throws IOException {
        try (Stream<Path> files = Files.list(work)) {
            for (Path file : files.toList()) {
                Files.delete(file);
            }
        }
        Files.delete(work);
    }
}
