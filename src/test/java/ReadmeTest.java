import java.io.IOException;
import java.lang.reflect.Method;
import java.lang.reflect.Modifier;
import java.net.URL;
import java.net.URLClassLoader;
import java.nio.file.Files;
import java.nio.file.Path;
import java.util.ArrayList;
import java.util.List;
import java.util.regex.Matcher;
import java.util.regex.Pattern;
import javax.tools.ToolProvider;

/** What README.md tells of the class's use: its example is compiled as it stands there, and its answers are held. */
public final class ReadmeTest {
    private static final Pattern BLOCK = Pattern.compile("(?s)```java\n(.*?)```");
    private static final Pattern ANSWER = Pattern.compile("(?m)^(lane\\.\\w+\\([^)]*\\));\\s+// (-?\\d+):.*$");

    public static void main(String[] args) throws IOException, ReflectiveOperationException {
        String readme = Files.readString(Path.of("README.md"));
        List<String> blocks = new ArrayList<>();
        for (Matcher m = BLOCK.matcher(readme); m.find();) {
            blocks.add(m.group(1));
        }
        Check.due("blocks: the helper, the example", blocks.size(), 2);
        Matcher answers = ANSWER.matcher(blocks.get(1));
        Check.due("answers in the example", answers.results().count(), 19);
        everyCallIsNamed(readme);
        run(blocks.get(0), answers.replaceAll("Check.due(\"README: $1\", $1, $2);"));
        Check.finish("ReadmeTest");
    }

    private static void everyCallIsNamed(String readme) {
        for (Method m : KnockLane.class.getDeclaredMethods()) {
            if (Modifier.isPublic(m.getModifiers())) {
                Check.due("README names " + m.getName(), readme.contains("`" + m.getName() + "`"), true);
            }
        }
    }

    /** The example ends the test itself if one of its answers is not as due. */
    private static void run(String helper, String example) throws IOException, ReflectiveOperationException {
        Path where = Files.createTempDirectory("readme");
        Path file = where.resolve("Example.java");
        String classes = System.getProperty("java.class.path");
        Files.writeString(file, "public final class Example {\n" + helper + "public static void main(String[] args) {\n"
            + example + "Check.finish(\"README.md\");\n}\n}\n");
        int compiled = ToolProvider.getSystemJavaCompiler().run(null, null, null, "-proc:none", "-cp", classes, "-d",
            where.toString(), file.toString());
        Check.due("README's example is compiled", compiled, 0);
        if (compiled == 0) {
            // One loader for both: Check is seen in its own package alone, and a package is of one loader.
            URL[] both = {where.toUri().toURL(), Path.of(classes).toUri().toURL()};
            try (URLClassLoader loader = new URLClassLoader(both, ClassLoader.getPlatformClassLoader())) {
                loader.loadClass("Example").getMethod("main", String[].class).invoke(null, (Object) new String[0]);
            }
        }
        Files.deleteIfExists(where.resolve("Example.class"));
        Files.delete(file);
        Files.delete(where);
    }
}
