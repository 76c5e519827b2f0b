import java.lang.reflect.Method;
import java.lang.reflect.Modifier;
import java.net.URL;
import java.net.URLClassLoader;
import java.nio.file.Files;
import java.nio.file.Path;
import java.util.regex.Matcher;
import java.util.regex.Pattern;
import javax.tools.JavaCompiler;
import javax.tools.ToolProvider;

/** What README.md says of the class holds; the first argument is the path of StruckWhile.java. */
public final class ReadmeTest {
    private static final Check C = new Check("README.md");
    private static final Pattern BLOCK = Pattern.compile("(?s)```java\n(.*?)```");
    /** A call, perhaps kept by a name, and the number behind it that it answers. */
    private static final Pattern CALL = Pattern.compile("(?m)^((?:int|long) \\w+ = )?(x\\.\\w+\\(.*\\));\\s*// (-?\\d+)\\b.*$");

    public static void main(String[] args) throws Exception {
        Path root = args.length > 0 ? Path.of(args[0]).toAbsolutePath().getParent().resolve("../../..") : Path.of("");
        String readme = Files.readString(root.resolve("README.md"));
        everyCallIsNamed(readme);
        theRunHolds(readme);
        C.end();
    }

    private static void everyCallIsNamed(String readme) {
        for (Method m : StruckWhile.class.getDeclaredMethods()) {
            if (Modifier.isPublic(m.getModifiers())) {
                C.holds(m.getName() + " is named", readme.contains("`" + m.getName() + "("));
            }
        }
    }

    /** All blocks, one behind the other, are one run of calls. */
    private static void theRunHolds(String readme) throws Exception {
        StringBuilder run = new StringBuilder("public final class ReadmeRun { public static void run() {\n");
        Matcher block = BLOCK.matcher(readme);
        int calls = 0;
        while (block.find()) {
            Matcher call = CALL.matcher(block.group(1));
            calls += (int) call.results().count();
            run.append(call.replaceAll(m -> Matcher.quoteReplacement((m.group(1) == null ? "" : m.group(1))
                + "ReadmeTest.due(\"" + m.group(2) + "\", " + m.group(2) + ", " + m.group(3) + ");")));
        }
        C.holds("there are calls: " + calls, calls > 30);
        runs(run.append("}}\n").toString());
    }

    private static void runs(String source) throws Exception {
        Path folder = Files.createTempDirectory("readme");
        Path file = Files.writeString(folder.resolve("ReadmeRun.java"), source);
        JavaCompiler compiler = ToolProvider.getSystemJavaCompiler();
        int failed = compiler.run(null, null, null, "-cp", System.getProperty("java.class.path"), "-d", folder.toString(),
            file.toString());
        C.holds("the run compiles", failed == 0);
        if (failed == 0) {
            try (URLClassLoader loader = new URLClassLoader(new URL[] {folder.toUri().toURL()})) {
                loader.loadClass("ReadmeRun").getMethod("run").invoke(null);
            }
        }
        for (String made : new String[] {"ReadmeRun.java", "ReadmeRun.class", ""}) {
            Files.deleteIfExists(folder.resolve(made));
        }
    }

    /** Called by the lines of the run. */
    public static int due(String call, int got, long want) {
        C.holds(call + " answers " + want + ", and not " + got, got == want);
        return got;
    }

    /** Called by the lines of the run. */
    public static long due(String call, long got, long want) {
        C.holds(call + " answers " + want + ", and not " + got, got == want);
        return got;
    }
}
