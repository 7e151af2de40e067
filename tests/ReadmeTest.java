import java.io.IOException;
import java.net.URL;
import java.net.URLClassLoader;
import java.nio.file.Files;
import java.nio.file.Path;
import java.util.regex.Matcher;
import java.util.regex.Pattern;

/** The example of README.md: it compiles, and each call answers what stands beside it. */
public final class ReadmeTest {
    private static final Told T = new Told("ReadmeTest");
    private static final Pattern EXAMPLE = Pattern.compile("(?s)```java\n(public final class Example .*?)```");
    private static final Pattern CALL = Pattern.compile("(?m)^ +(x\\.\\w+\\(.*\\)); +// (-?\\d+)(:.*)?$");

    /** What the calls of the example answer comes here. */
    public static void due(String call, int want, int got) {
        T.due(call, want, got);
    }

    private static String asked(String example) {
        StringBuilder all = new StringBuilder();
        Matcher calls = CALL.matcher(example);
        int many = 0;
        while (calls.find()) {
            calls.appendReplacement(all, Matcher.quoteReplacement("ReadmeTest.due(\"" + calls.group(1) + "\", "
                + calls.group(2) + ", " + calls.group(1) + ");"));
            many++;
        }
        calls.appendTail(all);
        T.due("calls of the example, more than 30", 1, many > 30 ? 1 : 0);
        String main = example.substring(example.indexOf("main("));
        T.due("all of them tell their answers", main.split("\n +x\\.", -1).length - 1, many);
        return all.toString();
    }

    /** Whether it was compiled, by the same javac that .ci/run calls. */
    private static boolean compiled(Path directory, Path source) throws IOException, InterruptedException {
        Process javac = new ProcessBuilder("javac", "-cp", System.getProperty("java.class.path"), "-d",
            directory.toString(), source.toString()).inheritIO().start();
        return javac.waitFor() == 0;
    }

    private static void run(Path directory) throws IOException, ReflectiveOperationException {
        try (URLClassLoader loader = new URLClassLoader(new URL[] {directory.toUri().toURL()})) {
            loader.loadClass("Example").getMethod("main", String[].class).invoke(null, (Object) new String[0]);
        }
    }

    private static void remove(Path directory) throws IOException {
        for (String name : new String[] {"Example.java", "Example.class"}) {
            Files.deleteIfExists(directory.resolve(name));
        }
        Files.deleteIfExists(directory);
    }

    public static void main(String[] args) throws IOException, InterruptedException, ReflectiveOperationException {
        Matcher example = EXAMPLE.matcher(Files.readString(Path.of("README.md")));
        boolean found = example.find();
        T.due("the example is found", 1, found ? 1 : 0);
        if (found) {
            Path directory = Files.createTempDirectory("readme");
            Path source = directory.resolve("Example.java");
            Files.writeString(source, asked(example.group(1)));
            boolean compiles = compiled(directory, source);
            T.due("it compiles", 1, compiles ? 1 : 0);
            if (compiles) {
                run(directory);
            }
            remove(directory);
        }
        T.close();
    }
}
