import java.io.ByteArrayOutputStream;
import java.io.PrintStream;
import java.net.URL;
import java.net.URLClassLoader;
import java.nio.charset.StandardCharsets;
import java.nio.file.Files;
import java.nio.file.Path;
import java.util.Comparator;
import java.util.List;
import java.util.stream.Collectors;
import java.util.stream.Stream;
import javax.tools.ToolProvider;

/** The example in README.md can be compiled, and prints what README.md says. */
public final class ReadmeTest {
    private static final Checks checks = new Checks();

    /** The lines between the first two marks of a block of this kind. */
    private static String block(List<String> lines, String kind) {
        int start = lines.indexOf("```" + kind);
        checks.holds("there is a block of " + kind, start >= 0);
        return lines.stream().skip(start + 1L).takeWhile(line -> !line.equals("```"))
                .collect(Collectors.joining("\n", "", "\n"));
    }

    private static String run(Path folder) throws Exception {
        ByteArrayOutputStream printed = new ByteArrayOutputStream();
        PrintStream before = System.out;
        try (URLClassLoader loader = new URLClassLoader(new URL[] {folder.toUri().toURL()},
                ReadmeTest.class.getClassLoader())) {
            System.setOut(new PrintStream(printed, true, StandardCharsets.UTF_8));
            loader.loadClass("Example").getMethod("main", String[].class).invoke(null, (Object) new String[0]);
        } finally {
            System.setOut(before);
        }
        return printed.toString(StandardCharsets.UTF_8).replace("\r\n", "\n");
    }

    private static void remove(Path folder) throws java.io.IOException {
        try (Stream<Path> paths = Files.walk(folder)) {
            for (Path path : paths.sorted(Comparator.reverseOrder()).collect(Collectors.toList())) {
                Files.delete(path);
            }
        }
    }

    public static void main(String[] args) throws Exception {
        List<String> lines = Files.readAllLines(Path.of("README.md"));
        Path folder = Files.createTempDirectory("readme");
        try {
            Path example = Files.writeString(folder.resolve("Example.java"), block(lines, "java"));
            int errors = ToolProvider.getSystemJavaCompiler().run(null, null, null, "-proc:none",
                    "-cp", System.getProperty("java.class.path"), "-d", folder.toString(), example.toString());
            checks.due("errors of the compiler", errors, 0);
            if (errors == 0) {
                String printed = run(folder);
                checks.holds("README.md tells what the example prints:\n" + printed, printed.equals(block(lines, "text")));
            }
        } finally {
            remove(folder);
        }
        checks.end();
    }
}
