import java.io.IOException;
import java.lang.reflect.Method;
import java.lang.reflect.Modifier;
import java.nio.file.Files;
import java.nio.file.Path;
import java.util.List;
import java.util.regex.Matcher;
import java.util.regex.Pattern;
import java.util.stream.Stream;

/** README.md: its example is the code below, line for line, and answers what it says. It runs from the root of the project. */
public final class ReadmeTest {
    public static void main(String[] args) throws IOException {
        String readme = Files.readString(Path.of("README.md"));
        List<Long> answers = example();
        theExampleIsTheCode(readme);
        theExampleSaysTheAnswers(readme, answers);
        everyMethodIsNamed(readme);
        everyTestIsNamed(readme);
        Due.end();
    }

    private static List<Long> example() {
        // the example begins
        SignedCalls calls = new SignedCalls();
        int alice = calls.account(1000, 1, 1);
        int bob = calls.account(50, 6, 2);

        calls.draft(alice, 0, 2, 20);
        calls.act(bob, 100);
        calls.add(calls.sign(0, calls.digest()));
        int first = calls.offer();

        calls.draft(bob, 0, 5, 10);
        calls.sponsor(alice);
        calls.act(alice, 30);
        calls.add(calls.sign(0, calls.digest()));
        calls.add(calls.sign(1, calls.digest()));
        int early = calls.offer();
        calls.add(calls.sign(2, calls.digest()));
        int second = calls.offer();

        int done = calls.block(1000);
        long hers = calls.funds(alice);
        long his = calls.funds(bob);
        int latest = calls.event(0, 0);
        int why = calls.event(0, 1);
        int units = calls.event(0, 2);
        long paid = calls.paid();
        // the example ends
        return List.of((long) alice, (long) bob, (long) first, (long) early, (long) second, (long) done, hers, his,
            (long) latest, (long) why, (long) units, paid);
    }

    private static String between(String text, String begin, String end) {
        int from = text.indexOf(begin);
        int to = from < 0 ? -1 : text.indexOf(end, from + begin.length());
        Due.holds(begin.trim() + " is there, and its end", to >= 0);
        return to < 0 ? "" : text.substring(from + begin.length(), to);
    }

    private static List<String> linesOf(String code) {
        return code.lines().map(line -> line.replaceAll("//.*", "").strip()).filter(line -> !line.isEmpty()).toList();
    }

    private static void theExampleIsTheCode(String readme) throws IOException {
        String source = Files.readString(Path.of("src/test/java/ReadmeTest.java"));
        List<String> here = linesOf(between(source, "// the example begins\n", "// the example ends\n"));
        List<String> there = linesOf(between(readme, "```java\n", "```\n"));
        Due.holds("the example is " + here + ", README.md has " + there, here.equals(there) && !here.isEmpty());
    }

    /** A line that keeps an answer says it ahead of all else in its comment. */
    private static void theExampleSaysTheAnswers(String readme, List<Long> answers) {
        Matcher line = Pattern.compile("(?m)^(?:int|long) (\\w+) = [^\\n]*; +// (-?\\d+)(?::|$)").matcher(between(readme, "```java\n", "```\n"));
        int told = 0;
        for (long answer : answers) {
            boolean isTold = line.find();
            Due.holds("answer " + told + " is told", isTold);
            if (isTold) {
                Due.is(line.group(1), answer, Long.parseLong(line.group(2)));
            }
            told++;
        }
        Due.holds("no answer is told beyond these", !line.find());
    }

    private static void everyMethodIsNamed(String readme) {
        for (Method method : SignedCalls.class.getDeclaredMethods()) {
            if (Modifier.isPublic(method.getModifiers())) {
                Due.holds(method.getName() + " stands in the table", readme.contains("\n| `" + method.getName() + "("));
            }
        }
    }

    private static void everyTestIsNamed(String readme) throws IOException {
        try (Stream<Path> files = Files.list(Path.of("src/test/java"))) {
            for (Path file : files.toList()) {
                String name = file.getFileName().toString().replace(".java", "");
                Due.holds(name + " stands in the table", !name.endsWith("Test") || readme.contains("\n| `" + name + "` |"));
            }
        }
    }
}
