import java.io.IOException;
import java.lang.reflect.Method;
import java.lang.reflect.Modifier;
import java.nio.file.DirectoryStream;
import java.nio.file.Files;
import java.nio.file.Path;
import java.util.ArrayList;
import java.util.List;
import java.util.Set;
import java.util.TreeSet;
import java.util.regex.Matcher;
import java.util.regex.Pattern;

/** README.md: its calls answer what stands behind them, and it names every call and every test. */
public final class ReadmeTest {
    private static final Checks CHECKS = new Checks();
    private static final Path README = Path.of("README.md");
    private static final Path TESTS = Path.of("src", "test", "java");
    private static final Pattern BLOCK = Pattern.compile("(?s)```java\n(.*?)```");
    private static final Pattern TEXT = Pattern.compile(".*: \"([^\"]+)\"\\.toCharArray\\(\\).*");
    private static final Pattern CALL = Pattern.compile("court\\.(\\w+)\\((.*)\\); +// (-?\\d+)(: .*)?");

    public static void main(String[] args) throws Exception {
        String page = Files.readString(README);
        Matcher block = BLOCK.matcher(page);
        CHECKS.holds("the page has an example", block.find());
        Set<String> called = play(block.group(1).split("\n"));
        CHECKS.holds("the example calls " + face() + ", not " + called, called.equals(face()));
        for (String name : face()) {
            CHECKS.holds("the page's table names " + name, page.contains("`" + name + "`"));
        }
        namesEveryTest(page);
        CHECKS.end("ReadmeTest");
    }

    /** Makes the calls of the example, line by line; the names of those called. */
    private static Set<String> play(String[] lines) throws ReflectiveOperationException {
        CandleCourt court = new CandleCourt();
        Set<String> called = new TreeSet<>();
        for (String line : lines) {
            Matcher text = TEXT.matcher(line);
            Matcher call = CALL.matcher(line);
            if (text.matches()) {
                Checks.say(court, text.group(1));
            } else if (call.matches()) {
                called.add(call.group(1));
                CHECKS.due(line, answer(court, call.group(1), call.group(2)), Long.parseLong(call.group(3)));
            } else {
                CHECKS.holds("no answer is told in: " + line, !line.startsWith("court."));
            }
        }
        return called;
    }

    private static long answer(CandleCourt court, String name, String told) throws ReflectiveOperationException {
        List<Object> numbers = new ArrayList<>();
        for (String number : told.isEmpty() ? new String[0] : told.split(", ")) {
            numbers.add(number.startsWith("'") ? (int) number.charAt(1) : Integer.parseInt(number));
        }
        for (Method method : CandleCourt.class.getDeclaredMethods()) {
            if (method.getName().equals(name) && method.getParameterCount() == numbers.size()) {
                return ((Number) method.invoke(court, numbers.toArray())).longValue();
            }
        }
        throw new IllegalStateException("no call " + name + "(" + told + ")");
    }

    private static Set<String> face() {
        Set<String> names = new TreeSet<>();
        for (Method method : CandleCourt.class.getDeclaredMethods()) {
            if (Modifier.isPublic(method.getModifiers())) {
                names.add(method.getName());
            }
        }
        return names;
    }

    private static void namesEveryTest(String page) throws IOException {
        try (DirectoryStream<Path> files = Files.newDirectoryStream(TESTS, "*Test.java")) {
            for (Path file : files) {
                String name = file.getFileName().toString().replace(".java", "");
                CHECKS.holds("the page names " + name, page.contains("| `" + name + "` |"));
            }
        }
    }
}
