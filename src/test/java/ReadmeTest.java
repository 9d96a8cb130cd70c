import java.io.IOException;
import java.net.URL;
import java.net.URLClassLoader;
import java.nio.file.Files;
import java.nio.file.Path;
import java.util.concurrent.Callable;
import java.util.function.BiConsumer;
import java.util.regex.Matcher;
import java.util.regex.Pattern;
import java.util.stream.Stream;
import javax.tools.ToolProvider;

/** The example of README.md is compiled, and each call must answer what stands behind it. */
public final class ReadmeTest {
    private static final Pattern ANSWERED = Pattern.compile("(\\S.*);\\s*// ([^:]+)(:.*)?");
    private static final Pattern DECLARED = Pattern.compile("int (\\w+) = .*");

    public static void main(String[] args) throws Exception {
        String readme = Files.readString(Path.of("README.md"));
        String example = readme.substring(readme.indexOf("```java\n") + 8);
        StringBuilder code = new StringBuilder("public final class Example {\n"
                + "public static void tell(java.util.function.BiConsumer"
                + "<String, java.util.concurrent.Callable<Object>> look) {\n");
        for (String line : example.substring(0, example.indexOf("```")).split("\n")) {
            code.append(withLook(line)).append('\n');
        }
        compileAndTell(code.append("}\n}\n").toString());
        Check.equal("the example has many calls", true, Check.count() > 30);
        Check.end("ReadmeTest");
    }

    /** The line, with a look at what its call answers if an answer stands behind it. */
    private static String withLook(String line) {
        Matcher answered = ANSWERED.matcher(line);
        if (!answered.matches()) {
            return line;
        }
        Matcher declared = DECLARED.matcher(answered.group(1));
        boolean declares = declared.matches();
        String looked = declares ? declared.group(1) : answered.group(1);
        return (declares ? line + "\n" : "") + "look.accept(\"" + answered.group(1) + " // "
                + answered.group(2).trim() + "\", () -> " + looked + ");";
    }

    private static void compileAndTell(String code) throws Exception {
        Path directory = Files.createTempDirectory("readme");
        try {
            Path source = Files.writeString(directory.resolve("Example.java"), code);
            int failure = ToolProvider.getSystemJavaCompiler().run(null, null, null, "-cp",
                    System.getProperty("java.class.path"), "-d", directory.toString(),
                    source.toString());
            Check.equal("javac of the example", 0, failure);
            if (failure == 0) {
                tell(directory);
            }
        } finally {
            delete(directory);
        }
    }

    private static void tell(Path directory) throws Exception {
        BiConsumer<String, Callable<Object>> look = ReadmeTest::look;
        try (URLClassLoader loader = new URLClassLoader(new URL[] {directory.toUri().toURL()})) {
            loader.loadClass("Example").getMethod("tell", BiConsumer.class).invoke(null, look);
        }
    }

    private static void look(String callAndAnswer, Callable<Object> call) {
        int behind = callAndAnswer.lastIndexOf(" // ");
        String due = callAndAnswer.substring(behind + 4);
        String got;
        try {
            got = String.valueOf(call.call());
        } catch (Exception e) {
            got = "throws " + e.getClass().getSimpleName();
        }
        Check.equal(callAndAnswer.substring(0, behind) + " of README.md", due, got);
    }

    private static void delete(Path directory) throws IOException {
        try (Stream<Path> files = Files.list(directory)) {
            for (Path file : files.toList()) {
                Files.delete(file);
            }
        }
        Files.delete(directory);
    }
}
