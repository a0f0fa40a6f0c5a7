import java.io.IOException;
import java.nio.file.Files;
import java.nio.file.Path;
import java.util.List;
import java.util.Set;
import java.util.TreeSet;
import java.util.regex.Matcher;
import java.util.regex.Pattern;
import java.util.stream.Stream;

/** What README.md says: its examples answer as they say, all calls and all tests are named. */
public final class ReadmeTest {
    private static final Path README = Path.of("README.md");
    private static final Path TESTS = Path.of("src/test/java");

    private static final Pattern NEW = Pattern.compile("GrudgeDesk desk = new GrudgeDesk\\(\\);.*");
    private static final Pattern TYPE = Pattern.compile("type\\(desk, \"(.*)\"\\);");
    private static final Pattern CALL = Pattern.compile("desk\\.(\\w+)\\(([-0-9, ]*)\\); +// (-?[0-9]+|NO)(:.*)?");

    public static void main(String[] args) throws IOException, ReflectiveOperationException {
        List<String> lines = Files.readAllLines(README);
        Set<String> called = examples(lines);
        calls(lines, called);
        tests(lines);
        Check.end("ReadmeTest");
    }

    /** All examples are one run of calls: which calls there were. */
    private static Set<String> examples(List<String> lines) throws ReflectiveOperationException {
        Set<String> called = new TreeSet<>();
        GrudgeDesk desk = null;
        boolean isCode = false;
        for (String line : lines) {
            Matcher call = CALL.matcher(line);
            Matcher type = TYPE.matcher(line);
            if (line.startsWith("```")) {
                isCode = line.equals("```java");
            } else if (isCode && NEW.matcher(line).matches()) {
                desk = new GrudgeDesk();
            } else if (isCode && type.matches()) {
                Check.type(desk, type.group(1));
                called.add("feed");
            } else if (isCode && call.matches()) {
                long want = call.group(3).equals("NO") ? Check.NO : Long.parseLong(call.group(3));
                Check.due(line, Calls.answer(desk, call.group(1), numbers(call.group(2))), want);
                called.add(call.group(1));
            } else if (isCode) {
                Check.holds("a line that can be tried: " + line, line.isEmpty());
            }
        }
        return called;
    }

    private static long[] numbers(String words) {
        return Stream.of(words.split(", ")).filter(word -> !word.isEmpty()).mapToLong(Long::parseLong).toArray();
    }

    private static void calls(List<String> lines, Set<String> called) {
        Set<String> listed = new TreeSet<>();
        for (String line : lines.subList(lines.indexOf("All calls:"), lines.indexOf("## How it works"))) {
            Matcher name = Pattern.compile("`(\\w+)`").matcher(line);
            while (name.find()) {
                Check.holds(name.group(1) + " is listed once", listed.add(name.group(1)));
            }
        }
        Check.holds("all calls are listed: " + listed, listed.equals(Calls.names()));
        Check.holds("all calls have an example: " + called, called.equals(Calls.names()));
    }

    private static void tests(List<String> lines) throws IOException {
        String page = String.join("\n", lines.subList(lines.indexOf("## How to run its tests"), lines.size()));
        try (Stream<Path> files = Files.list(TESTS)) {
            for (Path file : files.toList()) {
                String name = file.getFileName().toString().replace(".java", "");
                boolean isTest = name.endsWith("Test") || name.matches(".+Edges");
                Check.holds(name + " is named", !isTest || page.matches("(?s).*\\| (\\w+, )*" + name + "\\b.*"));
            }
        }
    }
}
