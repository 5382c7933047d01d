import java.io.IOException;
import java.lang.reflect.Method;
import java.lang.reflect.Modifier;
import java.net.URL;
import java.net.URLClassLoader;
import java.nio.file.Files;
import java.nio.file.Path;
import java.util.List;
import java.util.regex.Matcher;
import java.util.regex.Pattern;
import java.util.stream.Stream;
import javax.tools.ToolProvider;

/** What README.md shows is so: it is compiled and run as it stands there. Runs in the project's folder. */
public final class ReadmeTest {
    private static final Pattern BLOCK = Pattern.compile("(?ms)^```java\\n(.*?)^```$");
    private static final Pattern CALL = Pattern.compile("^(x\\.(\\w+)\\(.*\\)); +// (-?[0-9]+)(: .*)?$");
    private static final Check CHECK = new Check();

    private ReadmeTest() {
    }

    /** The page's calls come back here, each with its answer. */
    public static void due(String call, long got, long want) {
        CHECK.due(call, got, want);
    }

    public static void main(String[] args) throws Exception {
        String page = Files.readString(Path.of("README.md"));
        runs(exampleOf(page));
        showsEveryMethod(page);
        namesEveryTest(page);
        CHECK.end();
    }

    private static String exampleOf(String page) {
        StringBuilder methods = new StringBuilder();
        StringBuilder calls = new StringBuilder();
        Matcher blocks = BLOCK.matcher(page);
        while (blocks.find()) {
            String block = blocks.group(1);
            if (block.startsWith("static ")) {
                methods.append(block);
            } else {
                calls.append(withAnswers(block));
            }
        }
        return "public final class Example {\n" + methods + "public static void run() {\n" + calls + "}\n}\n";
    }

    private static String withAnswers(String block) {
        StringBuilder asked = new StringBuilder();
        for (String line : block.split("\n")) {
            Matcher call = CALL.matcher(line);
            if (call.matches()) {
                asked.append("ReadmeTest.due(\"").append(call.group(1)).append("\", ").append(call.group(1)).append(", ");
                asked.append(call.group(3)).append("L);\n");
            } else {
                CHECK.due("an answer is told in: " + line, line.startsWith("x.") ? 0 : 1, 1);
                asked.append(line).append('\n');
            }
        }
        return asked.toString();
    }

    private static void runs(String example) throws Exception {
        Path folder = Files.createTempDirectory("readme");
        Path file = folder.resolve("Example.java");
        Files.writeString(file, example);
        String path = System.getProperty("java.class.path");
        int failed = ToolProvider.getSystemJavaCompiler().run(null, null, null, "-cp", path, "-d", folder.toString(),
                file.toString());
        CHECK.due("the page's example compiles", failed, 0);
        if (failed == 0) {
            try (URLClassLoader loader = new URLClassLoader(new URL[] {folder.toUri().toURL()})) {
                loader.loadClass("Example").getMethod("run").invoke(null);
            }
        }
        for (String left : List.of("Example.java", "Example.class", "")) {
            Files.deleteIfExists(folder.resolve(left));
        }
    }

    private static void showsEveryMethod(String page) {
        for (Method m : PassedPenance.class.getDeclaredMethods()) {
            if (Modifier.isPublic(m.getModifiers())) {
                boolean isShown = Pattern.compile("(?m)^ *x\\." + m.getName() + "\\(").matcher(page).find();
                CHECK.due("the page shows " + m.getName() + "()", isShown ? 1 : 0, 1);
            }
        }
    }

    private static void namesEveryTest(String page) throws IOException {
        Matcher names = Pattern.compile("`(\\w+(Test|Bounds))`").matcher(page);
        while (names.find()) {
            boolean isThere = Files.exists(Path.of("src/test/java", names.group(1) + ".java"));
            CHECK.due("there is a " + names.group(1), isThere ? 1 : 0, 1);
        }
        CHECK.due("the page says how tests are run", page.contains("    .ci/run\n") ? 1 : 0, 1);
        CHECK.due("it can be run", Files.isExecutable(Path.of(".ci/run")) ? 1 : 0, 1);
        try (Stream<Path> files = Files.list(Path.of("src/test/java"))) {
            for (Path file : files.sorted().toList()) {
                String name = file.getFileName().toString().replace(".java", "");
                boolean isTest = name.endsWith("Test") || name.endsWith("Bounds");
                boolean isNamed = page.contains("`" + name + "`");
                CHECK.due("the page names " + name, isNamed || !isTest ? 1 : 0, 1);
            }
        }
    }
}
