import java.nio.file.Files;
import java.nio.file.Path;
import java.util.List;
import java.util.regex.Matcher;
import java.util.regex.Pattern;

/** The rules of LANGUAGE.md that the source itself shows: what words it must not have, how long it may be. */
public final class LanguageTest {
    private static final String[] BANNED = {"throw", "try", "catch", "synchronized", "assert", "package",
        "protected", "volatile", "transient", "native"};

    public static void main(String[] args) throws Exception {
        List<String> lines = Files.readAllLines(Path.of("src/main/java/LeverCurtain.java"));
        StringBuilder bare = new StringBuilder();
        boolean comment = false;
        for (String line : lines) {
            String trimmed = line.trim();
            comment |= trimmed.startsWith("/*");
            bare.append(comment ? "" : line.replaceAll("//.*", "")).append('\n');
            comment &= !trimmed.endsWith("*/");
        }
        words(bare.toString());
        methods(bare.toString());
        Due.end();
    }

    private static int many(String text, String pattern) {
        Matcher matcher = Pattern.compile(pattern).matcher(text);
        int many = 0;
        while (matcher.find()) {
            many++;
        }
        return many;
    }

    private static void words(String text) {
        for (String word : BANNED) {
            Due.is(0, many(text, "\\b" + word + "\\b"), "uses of " + word);
        }
        Due.is(0, many(text, "::|(?m)^(?!\\s*(case|default)\\b).*->"), "lambdas, references to methods");
        Due.is(0, many(text, "\\bstatic \\{"), "static blocks");
        Due.is(0, many(text, "[^\\x0a\\x20-\\x7e]"), "signs other than 32 to 126");
        Due.yes(many(text, "\\b(class|record|enum|interface) [A-Z]") <= 12, "some twelve classes");
        Due.is(1, many(text, "\\bpublic final class\\b"), "one public class");
    }

    private static void methods(String text) {
        String head = "(?m)^( {4}| {8})(?:(?:public|private|static|final) )*(?:[\\w\\[\\]]+ )?(\\w+)\\(([^)]*)\\) \\{$";
        Matcher matcher = Pattern.compile(head).matcher(text);
        int found = 0;
        while (matcher.find()) {
            found++;
            int end = Math.max(matcher.end(), text.indexOf("\n" + matcher.group(1) + "}", matcher.end()));
            int lines = many(text.substring(matcher.start(), end), "\n") + 2;
            Due.yes(lines <= 60, matcher.group(2) + " has " + lines + " lines");
            Due.yes(many(matcher.group(3), ",") < 7, matcher.group(2) + " has at most seven parameters");
        }
        Due.yes(found > 0, "methods found: " + found);
    }
}
