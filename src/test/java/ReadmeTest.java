import java.io.IOException;
import java.lang.reflect.Method;
import java.lang.reflect.Modifier;
import java.net.URL;
import java.net.URLClassLoader;
import java.nio.file.Files;
import java.nio.file.Path;
import java.util.ArrayList;
import java.util.Comparator;
import java.util.List;
import java.util.regex.Matcher;
import java.util.regex.Pattern;
import java.util.stream.Stream;
import javax.tools.JavaCompiler;
import javax.tools.ToolProvider;

/** README.md's program answers as the page says, shows every call of the face, and the page names every test. */
public final class ReadmeTest {
    private static final Path PAGE = Path.of("README.md");
    private static final Path TESTS = Path.of("src/test/java");
    private static final Pattern BLOCK = Pattern.compile("(?s)```java\n(.*?)```");
    private static final Pattern CALL = Pattern.compile(" *(x\\.(\\w+)\\(.*?\\)); *// (-?\\d+)(:.*)?");
    private static final Pattern UNTOLD = Pattern.compile(" *x\\.(?!type\\().*");
    private static int asked = 0;
    private static int wrong = 0;

    public static void main(String[] args) throws IOException, ReflectiveOperationException {
        String page = Files.readString(PAGE);
        List<String> shown = new ArrayList<>();
        String program = program(page, shown);
        Path made = Files.createTempDirectory("readme");
        try {
            run(program, made);
        } finally {
            remove(made);
        }
        check(asked == shown.size(), "of " + shown.size() + " answers on the page " + asked + " were looked at");
        everyCallIsShown(program);
        everyTestIsNamed(page);
        System.out.println("ReadmeTest: " + asked + " answers, " + wrong + " not as due");
        if (wrong != 0) {
            System.exit(1);
        }
    }

    /** Called by the page's program. */
    public static void due(String call, long got, long want) {
        asked++;
        check(got == want, "README.md: " + call + " answered " + got + ", the page says " + want);
    }

    private static void check(boolean fine, String what) {
        if (!fine) {
            wrong++;
            System.out.println(what);
        }
    }

    private static String program(String page, List<String> shown) {
        StringBuilder program = new StringBuilder("public final class Page {\npublic static void run() {\n");
        Matcher block = BLOCK.matcher(page);
        while (block.find()) {
            for (String line : block.group(1).split("\n")) {
                Matcher call = CALL.matcher(line);
                if (call.matches()) {
                    shown.add(call.group(2));
                    program.append("ReadmeTest.due(\"").append(call.group(1)).append("\", ").append(call.group(1)).append(", ")
                        .append(call.group(3)).append("L);\n");
                } else {
                    check(!UNTOLD.matcher(line).matches(), "README.md tells no answer: " + line);
                    program.append(line).append('\n');
                }
            }
        }
        return program.append("}\n}\n").toString();
    }

    private static void run(String program, Path made) throws IOException, ReflectiveOperationException {
        Path source = made.resolve("Page.java");
        Files.writeString(source, program);
        JavaCompiler compiler = ToolProvider.getSystemJavaCompiler();
        if (compiler == null) {
            check(false, "there is no compiler for the page's program");
            return;
        }
        String[] how = {"-cp", System.getProperty("java.class.path"), "-d", made.toString(), source.toString()};
        if (compiler.run(null, null, null, how) != 0) {
            check(false, "the page's program does not compile:\n" + program);
            return;
        }
        try (URLClassLoader loader = new URLClassLoader(new URL[] {made.toUri().toURL()}, ReadmeTest.class.getClassLoader())) {
            loader.loadClass("Page").getMethod("run").invoke(null);
        }
    }

    private static void remove(Path folder) throws IOException {
        try (Stream<Path> all = Files.walk(folder)) {
            for (Path one : all.sorted(Comparator.reverseOrder()).toList()) {
                Files.delete(one);
            }
        }
    }

    private static void everyCallIsShown(String program) {
        for (Method method : SidesChange.class.getDeclaredMethods()) {
            if (Modifier.isPublic(method.getModifiers())) {
                check(program.contains("x." + method.getName() + "("), "README.md does not show " + method.getName());
            }
        }
    }

    private static void everyTestIsNamed(String page) throws IOException {
        try (Stream<Path> files = Files.list(TESTS)) {
            for (Path file : files.filter(Files::isRegularFile).toList()) {
                check(page.contains("`" + TESTS.resolve(file.getFileName()) + "`"), "README.md does not name " + file);
            }
        }
    }
}
