import java.nio.charset.StandardCharsets;
import java.nio.file.Files;
import java.nio.file.Path;
import java.util.List;
import java.util.regex.Matcher;
import java.util.regex.Pattern;

/** What LANGUAGE.md says that can be seen in the source; the first argument is its path. */
public final class RulesTest {
    private static final Check C = new Check("the rules of the language");

    private static final List<String> FORBIDDEN = List.of("throw", "throws", "try", "catch", "finally", "synchronized", "assert",
        "package", "native", "volatile", "Object", "System.out", "System.exit", "System.err", "System.nanoTime",
        "System.currentTimeMillis", "System.getenv", "Thread", "Random", "protected");

    public static void main(String[] args) throws Exception {
        Path path = Path.of(args.length > 0 ? args[0] : "src/main/java/StruckWhile.java");
        String source = Files.readString(path, StandardCharsets.UTF_8);
        C.holds("all signs are 1 to 127", source.chars().allMatch(c -> c >= 1 && c <= 127));
        String bare = withoutWords(source);
        for (String word : FORBIDDEN) {
            C.holds("no " + word, !Pattern.compile("\\b" + Pattern.quote(word) + "\\b").matcher(bare).find());
        }
        C.holds("no lambda", bare.lines().allMatch(line -> !line.contains("->") || line.matches("\\s*(case\\b.*|default\\s*)->.*")));
        C.holds("no method reference", !bare.contains("::"));
        C.holds("none of those whose name ends in Exact", !Pattern.compile("Exact\\b").matcher(bare).find());
        C.holds("no text is joined by +", !Pattern.compile("\"\\s*\\+|\\+\\s*\"").matcher(bare).find());
        methods(bare);
        C.end();
    }

    /** Without comments, and with empty texts. */
    private static String withoutWords(String source) {
        String bare = source.replaceAll("(?s)/\\*.*?\\*/", "").replaceAll("//[^\n]*", "");
        return bare.replaceAll("\"(?:[^\"\\\\]|\\\\.)*\"", "\"\"").replaceAll("'(?:[^'\\\\]|\\\\.)'", "' '");
    }

    /** Members stand in 4 blanks, members of classes inside in 8. */
    private static void methods(String bare) {
        Matcher m = Pattern.compile("(?m)^( {4}| {8})(?=\\S)[^\n=;]*\\)( \\{)\n((?:.*\n)*?)\\1\\}\n").matcher(bare);
        int found = 0;
        while (m.find()) {
            found++;
            long lines = m.group(3).lines().count() + 2;
            C.holds("a method has at most some sixty lines: " + m.group().lines().findFirst().orElse(""), lines <= 66);
        }
        C.holds("the methods are found: " + found, found > 34);
    }
}
