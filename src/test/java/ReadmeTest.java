import java.io.IOException;
import java.lang.reflect.InvocationTargetException;
import java.lang.reflect.Method;
import java.nio.file.Files;
import java.nio.file.Path;
import java.util.ArrayList;
import java.util.List;
import java.util.Set;
import java.util.TreeSet;
import java.util.regex.Matcher;
import java.util.regex.Pattern;

/** What README.md shows of the class, and its words on how the tests are run, are so. */
public final class ReadmeTest extends Check {
    private static final Path README = Path.of("README.md");
    private static final Path TESTS = Path.of("src/test/java");
    private static final Pattern CALL = Pattern.compile("ring\\.(\\w+)\\((.*)\\);\\s+// (-?\\w+)(: .*)?");
    private static final Pattern QUOTED = Pattern.compile("\"([^\"]+)\"");
    private static final Pattern ROW = Pattern.compile("\\| `(\\w+)\\((.*?)\\)` \\|.*");
    private static final Pattern TEXT_ROW = Pattern.compile("\\| an? \\w+ \\|.*\\| `(\\S+)` \\| `(\\w+)\\(\\)` \\|");
    private static final Pattern TEST_NAMED = Pattern.compile("\\b\\w+Test\\b");

    public static void main(String[] args) throws IOException, InterruptedException {
        List<String> page = Files.readAllLines(README);
        example(block(page, "```java", "HousesThatChange ring"));
        packing(block(page, "```java", "static long packed"));
        texts(page);
        calls(page);
        refusals(String.join(" ", page));
        testsNamed(page);
        allTests(block(page, "```sh", ".ci/run"));
        oneTest(block(page, "```sh", "out="));
        finish("README.md tells it as it is");
    }

    /** The lines of the block of this sort that begins so. */
    private static List<String> block(List<String> page, String sort, String begin) {
        for (int i = 0; i + 1 < page.size(); i++) {
            if (page.get(i).equals(sort) && page.get(i + 1).startsWith(begin)) {
                int end = i + 1;
                while (end < page.size() && !page.get(end).equals("```")) {
                    end++;
                }
                return page.subList(i + 1, end);
            }
        }
        right("a block that begins: " + begin, false);
        return new ArrayList<>();
    }

    private static void right(String what, boolean so) {
        due("README.md, " + what + ", true (1) or not,", so ? 1 : 0, 1);
    }

    // ---- how the class is used

    private static void example(List<String> lines) {
        HousesThatChange ring = new HousesThatChange();
        Set<String> called = new TreeSet<>();
        for (String line : lines.subList(Math.min(1, lines.size()), lines.size())) {
            Matcher call = CALL.matcher(line);
            if (call.matches()) {
                called.add(call.group(1));
                due("README.md, " + line, answer(ring, call.group(1), call.group(2)), number(call.group(3)));
                if (call.group(1).equals("letters")) {
                    due("README.md, letters of: " + line, number(call.group(2)), quoted(line));
                }
            } else {
                right("a line that is no call: " + line, line.isEmpty() || line.startsWith("// "));
            }
        }
        due("README.md, calls that the example shows,", called.size(), names().size());
    }

    private static long answer(HousesThatChange ring, String name, String told) {
        String[] arguments = told.isEmpty() ? new String[0] : told.split(", ");
        for (Method method : HousesThatChange.class.getMethods()) {
            if (method.getDeclaringClass() == HousesThatChange.class && method.getName().equals(name)) {
                return called(ring, method, arguments);
            }
        }
        right("a call " + name, false);
        return 0;
    }

    private static long called(HousesThatChange ring, Method method, String[] told) {
        Class<?>[] sorts = method.getParameterTypes();
        right("as many arguments as " + method.getName() + " has", sorts.length == told.length);
        Object[] given = new Object[sorts.length];
        for (int i = 0; i < Math.min(sorts.length, told.length); i++) {
            long number = number(told[i]);
            given[i] = sorts[i] == long.class ? (Object) number : (Object) (int) number;
        }
        try {
            return ((Number) method.invoke(ring, given)).longValue();
        } catch (IllegalAccessException | InvocationTargetException | IllegalArgumentException thrown) {
            right(method.getName() + " is called: " + thrown, false);
            return 0;
        }
    }

    private static long number(String told) {
        switch (told) {
            case "NONE":
                return HousesThatChange.NONE;
            case "UNKNOWN":
                return HousesThatChange.UNKNOWN;
            case "OUTSIDE":
                return HousesThatChange.OUTSIDE;
            case "STATE":
                return HousesThatChange.STATE;
            case "FULL":
                return HousesThatChange.FULL;
            default:
                return told.matches("-?(0x[0-9a-f]+|[0-9]+)L?") ? Long.decode(told.replace("L", "")) : MIN;
        }
    }

    private static long quoted(String line) {
        Matcher quoted = QUOTED.matcher(line);
        return quoted.find() ? packed(quoted.group(1)) : 0;
    }

    private static Set<String> names() {
        Set<String> names = new TreeSet<>();
        for (Method method : HousesThatChange.class.getDeclaredMethods()) {
            if (java.lang.reflect.Modifier.isPublic(method.getModifiers())) {
                names.add(method.getName());
            }
        }
        return names;
    }

    /** What makes a long of a text is what these tests use. */
    private static void packing(List<String> lines) throws IOException {
        StringBuilder shown = new StringBuilder();
        for (String line : lines) {
            shown.append("    ").append(line).append('\n');
        }
        right("packed() is that of Check", Files.readString(TESTS.resolve("Check.java")).contains(shown));
    }

    // ---- tables

    private static void texts(List<String> page) {
        HousesThatChange x = new HousesThatChange();
        int rows = 0;
        for (String line : page) {
            Matcher row = TEXT_ROW.matcher(line);
            if (row.matches()) {
                rows++;
                write(x, row.group(1));
                long answer = answer(x, row.group(2), "");
                right(row.group(2) + "() reads " + row.group(1), answer >= 0 && x.count(4) == 0);
            }
        }
        due("README.md, rows of texts,", rows, 3);
    }

    private static void calls(List<String> page) {
        Set<String> told = new TreeSet<>();
        for (String line : page) {
            Matcher row = ROW.matcher(line);
            if (row.matches()) {
                right("one row for " + row.group(1), told.add(row.group(1)));
                int arguments = row.group(2).isEmpty() ? 0 : row.group(2).split(", ").length;
                due("README.md, arguments of " + row.group(1), arguments, argumentsOf(row.group(1)));
            }
        }
        right("a row for each call: " + told, told.equals(names()));
    }

    private static int argumentsOf(String name) {
        for (Method method : HousesThatChange.class.getMethods()) {
            if (method.getName().equals(name)) {
                return method.getParameterCount();
            }
        }
        return -1;
    }

    private static void refusals(String page) {
        Matcher told = Pattern.compile("`([A-Z]+)` ?\\((-\\d+)").matcher(page);
        Set<String> seen = new TreeSet<>();
        while (told.find()) {
            seen.add(told.group(1));
            due("README.md, " + told.group(), number(told.group(1)), number(told.group(2)));
        }
        due("README.md, names of refusals,", seen.size(), 5);
    }

    // ---- how its tests are run

    private static void testsNamed(List<String> page) throws IOException {
        Set<String> named = new TreeSet<>();
        Matcher name = TEST_NAMED.matcher(String.join(" ", page));
        while (name.find()) {
            named.add(name.group());
        }
        Set<String> there = new TreeSet<>();
        try (var files = Files.newDirectoryStream(TESTS, "*Test.java")) {
            for (Path file : files) {
                there.add(file.getFileName().toString().replace(".java", ""));
            }
        }
        right("all tests by their names: " + named, named.equals(there));
    }

    /** It runs this test, too, so it is not run from here. */
    private static void allTests(List<String> lines) {
        due("README.md, lines that run all tests,", lines.size(), 1);
        right(".ci/run can be run", lines.size() == 1 && Files.isExecutable(Path.of(lines.get(0))));
    }

    private static void oneTest(List<String> lines) throws IOException, InterruptedException {
        ProcessBuilder shell = new ProcessBuilder("sh", "-ec", String.join("\n", lines));
        Process run = shell.redirectErrorStream(true).start();
        String told = new String(run.getInputStream().readAllBytes());
        right("one test is run so: " + told, run.waitFor() == 0 && told.equals("all promises are kept\n"));
    }
}
