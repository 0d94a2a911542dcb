import java.io.IOException;
import java.io.StringWriter;
import java.net.URL;
import java.net.URLClassLoader;
import java.nio.file.Files;
import java.nio.file.Path;
import java.util.ArrayList;
import java.util.Comparator;
import java.util.List;
import java.util.regex.Matcher;
import java.util.regex.Pattern;
import java.util.stream.Collectors;
import java.util.stream.Stream;
import javax.tools.JavaCompiler;
import javax.tools.StandardJavaFileManager;
import javax.tools.ToolProvider;

/** What README.md says holds: its examples answer what stands behind them, and its files are those that there are. */
final class ReadmeTest {
    private static final Path README = Path.of("README.md");
    private static final Path TESTS = Path.of("src/test/java");
    private static final Pattern BLOCK = Pattern.compile("(?s)```java\n(.*?)```");
    // A call with the answer that is due behind it; what follows a comma or a semicolon there explains it.
    private static final Pattern TOLD = Pattern.compile("(library\\..*\\));\\s*// ([^,;]*)(?:[,;].*)?");

    private ReadmeTest() {
    }

    public static void main(String[] args) throws Exception {
        String readme = Files.readString(README);
        examples(readme);
        files(readme);
        Check.finish("ReadmeTest");
    }

    private static void examples(String readme) throws Exception {
        StringBuilder helpers = new StringBuilder();
        StringBuilder body = new StringBuilder();
        List<String> calls = new ArrayList<>();
        List<String> due = new ArrayList<>();
        Matcher blocks = BLOCK.matcher(readme);
        while (blocks.find()) {
            StringBuilder place = blocks.group(1).startsWith("static ") ? helpers : body;
            for (String line : blocks.group(1).split("\n")) {
                place.append(told(line, calls, due)).append('\n');
            }
        }
        String code = "public final class Example {\n" + helpers + "public static java.util.List<String> answers() {\n"
            + "java.util.List<String> answers = new java.util.ArrayList<>();\n" + body + "return answers;\n}\n}\n";
        List<?> answers = answers(code);
        Check.same("the examples tell answers", due.size() > 10, true);
        Check.same("the number of answers", answers.size(), due.size());
        for (int index = 0; index < Math.min(answers.size(), due.size()); index++) {
            Check.same(calls.get(index), answers.get(index), due.get(index));
        }
    }

    /** The line, or one that keeps the answer of its call. */
    private static String told(String line, List<String> calls, List<String> due) {
        Matcher told = TOLD.matcher(line);
        if (!told.matches()) {
            return line;
        }
        calls.add(told.group(1));
        due.add(told.group(2).trim());
        return "try { answers.add(String.valueOf(" + told.group(1) + ")); } catch (RuntimeException thrown) {"
            + " answers.add(\"throws \" + thrown.getClass().getSimpleName()); }";
    }

    private static List<?> answers(String code) throws Exception {
        Path directory = Files.createTempDirectory("readme");
        try {
            Path source = Files.writeString(directory.resolve("Example.java"), code);
            Check.same("what the compiler says of the examples", compile(source, directory), "");
            if (!Files.exists(directory.resolve("Example.class"))) {
                return List.of();
            }
            try (URLClassLoader loader = new URLClassLoader(new URL[] {directory.toUri().toURL()})) {
                return (List<?>) loader.loadClass("Example").getMethod("answers").invoke(null);
            }
        } finally {
            delete(directory);
        }
    }

    /** Answers what the compiler says. */
    private static String compile(Path source, Path directory) throws IOException {
        JavaCompiler compiler = ToolProvider.getSystemJavaCompiler();
        StringWriter said = new StringWriter();
        List<String> options = List.of("-cp", System.getProperty("java.class.path"), "-d", directory.toString());
        try (StandardJavaFileManager files = compiler.getStandardFileManager(null, null, null)) {
            compiler.getTask(said, files, null, options, null, files.getJavaFileObjects(source)).call();
        }
        return said.toString();
    }

    private static void delete(Path directory) throws IOException {
        try (Stream<Path> paths = Files.walk(directory)) {
            for (Path path : paths.sorted(Comparator.reverseOrder()).collect(Collectors.toList())) {
                Files.delete(path);
            }
        }
    }

    /** Each file of the tests, and each class inside the class, is named; each file that is named is there. */
    private static void files(String readme) throws IOException {
        try (Stream<Path> paths = Files.list(TESTS)) {
            for (Path path : paths.sorted().collect(Collectors.toList())) {
                String name = path.getFileName().toString().replace(".java", "");
                Check.same("README.md names " + name, readme.contains("`" + name + "`"), true);
            }
        }
        for (Class<?> inner : PatternLibrary.class.getDeclaredClasses()) {
            Check.same("README.md names " + inner.getSimpleName(), readme.contains("| `" + inner.getSimpleName() + "` |"), true);
        }
        Matcher named = Pattern.compile("`([./\\w]+/[./\\w]+)`").matcher(readme);
        while (named.find()) {
            Check.same(named.group(1) + " is there", Files.exists(Path.of(named.group(1))), true);
        }
        Check.same("README.md tells how the tests are run", readme.contains("\n    .ci/run\n") && Files.isExecutable(Path.of(".ci/run")), true);
    }
}
