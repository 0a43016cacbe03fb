import java.io.IOException;
import java.lang.reflect.Method;
import java.lang.reflect.Modifier;
import java.nio.file.Files;
import java.nio.file.Path;
import java.util.Arrays;
import java.util.Set;
import java.util.TreeSet;
import java.util.regex.Matcher;
import java.util.regex.Pattern;
import java.util.stream.Stream;

/** What README.md says of the class and of the tests holds as it is written there. */
public final class ReadmeTest {
    private static final Check CHECK = new Check("ReadmeTest");
    private static final Path TESTS = Path.of("src/test/java");
    private static final Pattern MADE = Pattern.compile("FewWays x = new FewWays\\(\\);(?: +//.*)?");
    private static final Pattern CALL = Pattern.compile("x\\.(\\w+)\\(([-\\d, ]*)\\); +// (-?\\d+)(?:\\D.*)?");
    private static final int MOST_CALLS = 512;

    public static void main(String[] args) throws IOException, ReflectiveOperationException {
        String readme = Files.readString(Path.of("README.md"));
        example(readme);
        calls(readme);
        answers(readme);
        tests(readme);
        commands(readme);
        CHECK.end();
    }

    /** Each line makes the object, or is a call with the answer that is due behind it. */
    private static void example(String readme) throws ReflectiveOperationException {
        FewWays x = null;
        int calls = 0;
        for (String line : between(readme, "```java\n", "```").lines().toList()) {
            Matcher call = CALL.matcher(line);
            if (MADE.matcher(line).matches()) {
                x = new FewWays();
            } else if (call.matches()) {
                long due = Long.parseLong(call.group(3));
                CHECK.due(line, answer(x, call.group(1), numbers(call.group(2))), due);
                calls++;
            } else {
                CHECK.holds("the example's line is a call with its answer: " + line, false);
            }
        }
        CHECK.holds("the example calls something, 512 times at most", calls > 0 && calls <= MOST_CALLS);
    }

    private static String between(String text, String from, String to) {
        int start = text.indexOf(from);
        CHECK.holds("README.md has " + from.strip(), start >= 0);
        return text.substring(start + from.length(), text.indexOf(to, start + from.length()));
    }

    private static Object[] numbers(String told) {
        return told.isEmpty() ? new Object[0] : Stream.of(told.split(", ")).map(Integer::valueOf).toArray();
    }

    private static long answer(FewWays x, String name, Object[] told) throws ReflectiveOperationException {
        Class<?>[] kinds = new Class<?>[told.length];
        Arrays.fill(kinds, int.class);
        return ((Number) FewWays.class.getMethod(name, kinds).invoke(x, told)).longValue();
    }

    /** Each call of the face has its row, with as many arguments, and no other has one. */
    private static void calls(String readme) {
        Set<String> told = found("(?m)^\\| `(\\w+\\([\\w, ]*\\))` \\|", readme);
        Set<String> due = new TreeSet<>();
        for (Method method : FewWays.class.getDeclaredMethods()) {
            if (Modifier.isPublic(method.getModifiers())) {
                due.add(method.getName() + " " + method.getParameterCount());
            }
        }
        Set<String> counted = new TreeSet<>();
        for (String call : told) {
            String inside = call.substring(call.indexOf('(') + 1, call.length() - 1);
            int arguments = inside.isEmpty() ? 0 : inside.split(", ").length;
            counted.add(call.substring(0, call.indexOf('(')) + " " + arguments);
        }
        CHECK.holds("README.md has a row for each call of " + due + " and no other: " + counted, counted.equals(due));
    }

    private static void answers(String readme) {
        FewWays x = new FewWays();
        tells(readme, "`BAD` (" + FewWays.BAD + "; `bulk` " + x.bulk(0) + ", `number` " + x.number(-1, 0) + ")");
        tells(readme, "`NO` (" + FewWays.NO + ")");
        tells(readme, "`NONE` (" + FewWays.NONE + ")");
    }

    private static void tells(String readme, String words) {
        CHECK.holds("README.md tells " + words, readme.replaceAll("\\s+", " ").contains(words));
    }

    /** Each test of the project has its place in the table of tests, and no other has one. */
    private static void tests(String readme) throws IOException {
        Set<String> there = new TreeSet<>();
        try (Stream<Path> files = Files.list(TESTS)) {
            files.map(file -> file.getFileName().toString())
                    .filter(name -> name.endsWith("Test.java"))
                    .forEach(name -> there.add(name.replace(".java", "")));
        }
        String rows = String.join("\n", found("(?m)^(\\|(?: `\\w+Test`,?)+ \\|)", readme));
        Set<String> told = found("`(\\w+Test)`", rows);
        CHECK.holds("README.md has a row for each test of " + there + " and no other: " + told, told.equals(there));
    }

    private static Set<String> found(String pattern, String text) {
        Set<String> found = new TreeSet<>();
        Matcher matcher = Pattern.compile(pattern).matcher(text);
        while (matcher.find()) {
            found.add(matcher.group(1));
        }
        return found;
    }

    private static void commands(String readme) {
        tells(readme, "javac -d out src/main/java/FewWays.java");
        tells(readme, ".ci/run");
        CHECK.holds(".ci/run can be run", Files.isExecutable(Path.of(".ci/run")));
        CHECK.holds("the class is where README.md says", Files.exists(Path.of("src/main/java/FewWays.java")));
        CHECK.holds("the document is where README.md says", Files.exists(Path.of("../shared/DOC.md")));
        CHECK.holds("so is its language", Files.exists(Path.of("../shared/LANGUAGE.md")));
    }
}
