import java.io.File;
import java.io.IOException;
import java.lang.reflect.Method;
import java.lang.reflect.Modifier;
import java.net.URL;
import java.net.URLClassLoader;
import java.nio.file.Files;
import java.nio.file.Path;
import java.util.function.BiConsumer;
import java.util.regex.Matcher;
import java.util.regex.Pattern;
import java.util.stream.Stream;
import javax.tools.ToolProvider;

/** README.md: its calls answer what stands behind them, and it names every call and every test. */
final class ReadmeTest {
    private static final Check check = new Check("ReadmeTest");
    /** A call on a line of its own, with its answer behind it. */
    private static final Pattern CALL = Pattern.compile("(x\\.\\w+\\(.*\\)); +// (-?\\d+): .+");

    public static void main(String[] args) throws Exception {
        String readme = Files.readString(Path.of("README.md"));
        namesEveryCall(readme);
        namesEveryTest(readme);
        example(readme);
        check.end();
    }

    private static void namesEveryCall(String readme) {
        for (Method m : SnowCensus.class.getDeclaredMethods()) {
            if (Modifier.isPublic(m.getModifiers())) {
                check.dueTrue("README names " + m.getName(), readme.contains("`" + m.getName() + "`"));
            }
        }
    }

    private static void namesEveryTest(String readme) throws IOException {
        try (Stream<Path> files = Files.list(Path.of("src/test/java"))) {
            for (Path file : files.toList()) {
                String name = file.getFileName().toString().replace(".java", "");
                check.dueTrue("README names " + name, readme.contains("`" + name + "`"));
            }
        }
    }

    private static String exampleOf(String readme) {
        int begin = readme.indexOf("```java\n");
        int end = readme.indexOf("\n```", begin);
        return begin < 0 || end < 0 ? "" : readme.substring(begin + "```java\n".length(), end);
    }

    /** Compiled, not read, so that it is what one who copies it gets. */
    private static void example(String readme) throws Exception {
        StringBuilder program = new StringBuilder("public final class ReadmeExample {\n"
            + "public static void run(java.util.function.BiConsumer<String, long[]> due) {\n");
        int answers = 0;
        for (String line : exampleOf(readme).split("\n")) {
            Matcher call = CALL.matcher(line);
            if (call.matches()) {
                answers++;
                program.append("due.accept(\"").append(call.group(1)).append("\", new long[] {")
                    .append(call.group(1)).append(", ").append(call.group(2)).append("L});\n");
            } else {
                program.append(line).append('\n');
            }
        }
        check.dueTrue("README has an example with answers: " + answers, answers > 20);
        run(program.append("}\n}\n").toString());
    }

    private static void run(String program) throws Exception {
        Path room = Files.createTempDirectory("readme");
        Path source = room.resolve("ReadmeExample.java");
        Files.writeString(source, program);
        int code = ToolProvider.getSystemJavaCompiler().run(null, null, null, "-d", room.toString(),
            "-cp", System.getProperty("java.class.path"), source.toString());
        check.due("README's example compiles", code, 0);
        if (code == 0) {
            BiConsumer<String, long[]> due = (call, both) -> check.due(call, both[0], both[1]);
            try (URLClassLoader loader = new URLClassLoader(new URL[] {room.toUri().toURL()})) {
                loader.loadClass("ReadmeExample").getMethod("run", BiConsumer.class).invoke(null, due);
            }
        }
        for (File left : room.toFile().listFiles()) {
            Files.delete(left.toPath());
        }
        Files.delete(room);
    }
}
