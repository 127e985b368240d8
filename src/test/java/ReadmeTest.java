import java.io.IOException;
import java.lang.reflect.Method;
import java.lang.reflect.Modifier;
import java.nio.file.Files;
import java.nio.file.Path;
import java.util.HashMap;
import java.util.List;
import java.util.Map;
import java.util.Set;
import java.util.TreeSet;
import java.util.regex.Matcher;
import java.util.regex.Pattern;
import java.util.stream.Stream;

/** README.md: its example answers as it says, and its tables leave out nothing; run in the project's folder. */
final class ReadmeTest {
    private static final Pattern EXAMPLE = Pattern.compile("(\\w+) (\\w+) = yard\\.(\\w+)\\((.*?)\\); +// ([^:]+):.*");
    private static final Pattern NAME = Pattern.compile("`(\\w+)`");
    private static final String[] EXCEPTIONS = {
        "IndexOutOfBoundsException", "IllegalArgumentException", "IllegalStateException", "NoSuchElementException",
        "ArithmeticException",
    };

    public static void main(String[] args) throws IOException {
        List<String> lines = Files.readAllLines(Path.of("README.md"));
        runExample(lines);
        groupsAreWhole(lines);
        exceptionsAreWhole(lines);
        silentCalls(lines);
        testsAreWhole(lines);
        Expect.due("the number of calls is told", true,
            () -> lines.stream().anyMatch(line -> line.contains("512 calls")));
        Expect.end();
    }

    private static void runExample(List<String> lines) {
        int start = lines.indexOf("```java") + 1;
        Expect.due("the example begins", "BoatCradle yard = new BoatCradle();", () -> lines.get(start));
        BoatCradle yard = new BoatCradle();
        Map<String, Integer> values = new HashMap<>();
        for (int line = start + 1; !lines.get(line).equals("```"); line++) {
            String text = lines.get(line);
            Matcher matcher = EXAMPLE.matcher(text);
            if (!matcher.matches()) {
                Expect.due(text, "a call with its answer", () -> "another line");
                continue;
            }
            Object got = Calls.call(yard, matcher.group(3), numbers(matcher.group(4), values));
            Expect.due(text, matcher.group(5), () -> got);
            Expect.due(text + " type", matcher.group(1), () -> typeOf(matcher.group(3)));
            if (got instanceof Integer number) {
                values.put(matcher.group(2), number);
            }
        }
    }

    private static int[] numbers(String list, Map<String, Integer> values) {
        return Stream.of(list.split(", ")).filter(word -> !word.isEmpty())
            .mapToInt(word -> values.containsKey(word) ? values.get(word) : Integer.parseInt(word)).toArray();
    }

    private static String typeOf(String call) {
        return face().filter(method -> method.getName().equals(call)).findFirst()
            .map(method -> method.getReturnType().getName()).orElse("no such call");
    }

    private static void groupsAreWhole(List<String> lines) {
        Set<String> told = new TreeSet<>();
        for (String group : new String[] {"yard", "moves", "coats and hours", "ways out and figures"}) {
            lines.stream().filter(line -> line.startsWith("| " + group + " |"))
                .forEach(line -> told.addAll(namesIn(line.split("\\|")[3])));
        }
        Set<String> due = new TreeSet<>();
        face().forEach(method -> due.add(method.getName()));
        Expect.due("calls in the table of groups", due, () -> told);
    }

    private static void exceptionsAreWhole(List<String> lines) {
        int before = -1;
        for (String exception : EXCEPTIONS) {
            int row = rowOf(lines, exception);
            int least = before;
            Expect.due("rows in the order of the document: " + exception, true, () -> row > least);
            Set<String> due = new TreeSet<>();
            face().filter(method -> throwsIt(method, exception)).forEach(method -> due.add(method.getName()));
            Expect.due("calls that throw " + exception, due, () -> namesIn(lines.get(row).split("\\|")[3]));
            before = row;
        }
    }

    private static void silentCalls(List<String> lines) {
        Set<String> due = new TreeSet<>();
        face().filter(method -> method.getExceptionTypes().length == 0).forEach(method -> due.add(method.getName()));
        Expect.due("calls that throw nothing", due, () -> namesIn(
            lines.stream().filter(line -> line.endsWith(" throw nothing.")).findFirst().orElse("")));
    }

    private static void testsAreWhole(List<String> lines) throws IOException {
        try (Stream<Path> files = Files.list(Path.of("src/test/java"))) {
            files.map(file -> file.getFileName().toString().replace(".java", ""))
                .filter(name -> name.endsWith("Test"))
                .forEach(name -> Expect.due("row of " + name, true, () -> rowOf(lines, name) >= 0));
        }
    }

    private static int rowOf(List<String> lines, String name) {
        for (int line = 0; line < lines.size(); line++) {
            if (lines.get(line).startsWith("| `" + name + "` |")) {
                return line;
            }
        }
        return -1;
    }

    private static Set<String> namesIn(String text) {
        Set<String> names = new TreeSet<>();
        Matcher matcher = NAME.matcher(text);
        while (matcher.find()) {
            names.add(matcher.group(1));
        }
        return names;
    }

    private static boolean throwsIt(Method method, String exception) {
        return Stream.of(method.getExceptionTypes()).anyMatch(type -> type.getSimpleName().equals(exception));
    }

    private static Stream<Method> face() {
        return Stream.of(BoatCradle.class.getDeclaredMethods())
            .filter(method -> Modifier.isPublic(method.getModifiers()));
    }
}
