import java.io.IOException;
import java.nio.file.Files;
import java.nio.file.Path;
import java.util.regex.Matcher;
import java.util.regex.Pattern;

/** What ../shared/LANGUAGE.md rules out and a look at the text can find. It runs from the root of the project. */
public final class LanguageTest {
    private static final String[] RULED_OUT = {
        "\\b(throw|throws|try|catch|finally|synchronized|assert|import|package|volatile|native|transient)\\b",
        "->", "::", "Exact\\s*\\(", "\\bstatic\\s*\\{", "@\\w+",
        "\\b(System|Thread|Runtime|Class|Object)\\b(?!\\.arraycopy)",
        "\\.(equals|hashCode|toString|getClass|wait|notify)\\s*\\(", "\\b(equals|hashCode|toString)\\s*\\(",
        "\\bwhile\\s*\\(\\s*true", "for\\s*\\(\\s*;\\s*;", "\\bvar\\b", "\\bnull\\b",
    };

    public static void main(String[] args) throws IOException {
        String source = Files.readString(Path.of("src/main/java/SignedCalls.java"));
        String code = source.replaceAll("(?s)/\\*.*?\\*/", " ").replaceAll("//[^\\n]*", " ");
        for (String pattern : RULED_OUT) {
            Matcher found = Pattern.compile(pattern).matcher(code);
            Due.holds("no " + pattern + (found.find() ? ", but " + found.group() : ""), !found.find(0));
        }
        Due.holds("plain characters", source.chars().allMatch(c -> c < 256));
        methodsAreShort(source);
        Due.end();
    }

    /** A method's text stands between its head and the closing brace of the same depth. */
    private static void methodsAreShort(String source) {
        Matcher head = Pattern.compile("(?m)^( +)[^\\n;=/*]*\\([^\\n]*\\) \\{$").matcher(source);
        int methods = 0;
        while (head.find()) {
            int end = source.indexOf("\n" + head.group(1) + "}", head.end() - 1);
            long lines = source.substring(head.start(), end + 1).lines().count();
            Due.holds(head.group().trim() + " has " + lines + " lines", lines <= 60);
            methods++;
        }
        Due.holds("methods were found", methods > 40);
    }
}
