import java.nio.file.Files;
import java.nio.file.Path;
import java.util.List;
import java.util.regex.Matcher;
import java.util.regex.Pattern;

/** The rules of LANGUAGE.md that the source itself shows: what words it must not have, how long it may be. */
public final class LanguageTest {
    private static final String[] BANNED = {"throw", "throws", "try", "catch", "synchronized", "assert", "import",
        "package", "instanceof", "volatile", "String", "Object", "protected", "record", "enum", "var"};

    public static void main(String[] args) throws Exception {
        List<String> lines = Files.readAllLines(Path.of("src/main/java/LeverCurtain.java"));
        StringBuilder bare = new StringBuilder();
        boolean comment = false;
        for (String line : lines) {
            String trimmed = line.trim();
            comment |= trimmed.startsWith("/*");
            bare.append(comment || trimmed.startsWith("//") ? "" : line).append('\n');
            comment &= !trimmed.endsWith("*/");
        }
        words(bare.toString());
        news(bare.toString());
        methods(bare.toString());
        Due.end();
    }

    private static int many(String text, String pattern) {
        Matcher matcher = Pattern.compile(pattern).matcher(text);
        int many = 0;
        while (matcher.find()) {
            many++;
        }
        return many;
    }

    private static void words(String text) {
        for (String word : BANNED) {
            Due.is(0, many(text, "\\b" + word + "\\b"), "uses of " + word);
        }
        Due.is(0, many(text, "->|::|\"|@"), "lambdas, references, texts, annotations");
        Due.is(0, many(text, "static \\{"), "static blocks");
        Due.is(0, many(text, "[^\\x0a\\x20-\\x7e]"), "signs other than 32 to 126");
        Due.is(0, many(text, "\\bwhile\\b"), "loops without a counter");
        Due.yes(many(text, "\\bclass\\b") <= 12, "some twelve classes");
        Due.is(1, many(text, "\\bpublic final class\\b"), "one public class");
    }

    /** All rows are made once: in constructors, or where a field stands. */
    private static void news(String text) {
        int fields = many(text, "(?m)^        (private )?final [\\w\\[\\]]+ \\w+ = new .*;$");
        int inConstructor = many(text, "(?m)^        \\w+ = new \\w+\\([\\w, ]*\\);$");
        Due.is(many(text, "\\bnew\\b"), fields + inConstructor, "what is made only once");
        Due.is(9, inConstructor, "parts that the constructor makes");
    }

    private static void methods(String text) {
        String head = "(?m)^( {4}| {8})(?:(?:public|private|static|final) )*(?:[\\w\\[\\]]+ )?(\\w+)\\(([^)]*)\\) \\{$";
        Matcher matcher = Pattern.compile(head).matcher(text);
        int found = 0;
        while (matcher.find()) {
            found++;
            int end = text.indexOf("\n" + matcher.group(1) + "}", matcher.end());
            int lines = many(text.substring(matcher.start(), end), "\n") + 2;
            Due.yes(lines <= 60, matcher.group(2) + " has " + lines + " lines");
            Due.yes(many(matcher.group(3), ",") < 7, matcher.group(2) + " has at most seven parameters");
        }
        Due.yes(found > 150, "methods found: " + found);
    }
}
