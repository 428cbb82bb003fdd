import java.net.URL;
import java.net.URLClassLoader;
import java.nio.file.Files;
import java.nio.file.Path;
import java.util.ArrayList;
import java.util.List;
import java.util.regex.Matcher;
import java.util.regex.Pattern;
import javax.tools.ToolProvider;

/** README.md's examples compile, and each call in them answers what stands behind it. */
public final class ReadmeTest {
    private static final Pattern CALL = Pattern.compile("(x\\..*\\)); +// (-?\\d+)\\b.*");

    private final List<String> calls = new ArrayList<>();
    private final List<Long> wants = new ArrayList<>();
    private final StringBuilder source = new StringBuilder();

    public static void main(String[] args) throws Exception {
        ReadmeTest test = new ReadmeTest();
        test.read(Files.readAllLines(Path.of("README.md")));
        List<?> got = test.answers();
        Due due = new Due();
        due.of(0, "README.md says how to use the class");
        due.is("answers of README.md's calls", got.size(), test.calls.size());
        for (int k = 0; k < test.calls.size(); k++) {
            due.is(test.calls.get(k), (Long) got.get(k), test.wants.get(k));
        }
        due.end(0, 0);
    }

    /** Makes one source of all examples, in which each call with an answer behind it hands its answer out. */
    private void read(List<String> lines) {
        source.append("public final class ReadmeExample {\n");
        source.append("public static java.util.List<Long> answers() {\n");
        source.append("java.util.List<Long> answers = new java.util.ArrayList<>();\n");
        boolean inExample = false;
        for (String line : lines) {
            Matcher call = CALL.matcher(line);
            if (line.startsWith("```")) {
                inExample = line.equals("```java");
            } else if (inExample && call.matches()) {
                calls.add(call.group(1));
                wants.add(Long.valueOf(call.group(2)));
                source.append("answers.add((long) ").append(call.group(1)).append(");\n");
            } else if (inExample) {
                source.append(line).append('\n');
            }
        }
        source.append("return answers;\n}\n}\n");
    }

    private List<?> answers() throws Exception {
        Path directory = Files.createTempDirectory("readme");
        Path file = directory.resolve("ReadmeExample.java");
        Path compiled = directory.resolve("ReadmeExample.class");
        try {
            Files.writeString(file, source);
            String classes = System.getProperty("java.class.path");
            String[] options = {"-cp", classes, "-d", directory.toString(), file.toString()};
            if (ToolProvider.getSystemJavaCompiler().run(null, null, null, options) != 0) {
                throw new IllegalStateException("README.md's examples do not compile");
            }
            try (URLClassLoader loader = new URLClassLoader(new URL[] {directory.toUri().toURL()})) {
                return (List<?>) loader.loadClass("ReadmeExample").getMethod("answers").invoke(null);
            }
        } finally {
            Files.deleteIfExists(compiled);
            Files.deleteIfExists(file);
            Files.deleteIfExists(directory);
        }
    }
}
