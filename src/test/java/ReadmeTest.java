import java.io.IOException;
import java.lang.reflect.Method;
import java.nio.file.Files;
import java.nio.file.Path;
import java.util.ArrayList;
import java.util.List;
import java.util.regex.Matcher;
import java.util.regex.Pattern;

/** Holds README.md to what it says: its example is done line by line, its groups are the document's. */
public final class ReadmeTest {
    private static final Path DOCUMENT = Path.of("../shared/DOC.md");
    private static final Path PAGE = Path.of("README.md");
    private static final Pattern EXAMPLE = Pattern.compile("^street\\.(\\w+)\\((.*)\\); +// (-?\\d+)(: .*)?$", Pattern.MULTILINE);

    private final Checks checks = new Checks("ReadmeTest");
    private final String document = Files.readString(DOCUMENT);
    private final String page = Files.readString(PAGE);

    private ReadmeTest() throws IOException {
    }

    public static void main(String[] args) throws IOException, ReflectiveOperationException {
        ReadmeTest t = new ReadmeTest();
        t.example();
        t.groups();
        t.refusals();
        t.tests();
        t.checks.end();
    }

    private void example() throws ReflectiveOperationException {
        PavedAnew street = new PavedAnew();
        Matcher line = EXAMPLE.matcher(page);
        int lines = 0;
        while (line.find()) {
            lines++;
            checks.due(line.group(), answer(street, line.group(1), line.group(2)), Long.parseLong(line.group(3)));
        }
        checks.due("lines of the example", lines, page.split("\nstreet\\.", -1).length - 1);
        checks.holds("there is an example", lines > 20);
    }

    /** The numbers stand as Java writes them: 0x.. with an L, or octal figures behind a 0. */
    private static long answer(PavedAnew street, String name, String told) throws ReflectiveOperationException {
        for (Method method : PavedAnew.class.getMethods()) {
            if (method.getName().equals(name)) {
                Object[] values = new Object[method.getParameterCount()];
                String[] numbers = told.isEmpty() ? new String[0] : told.split(", ");
                for (int i = 0; i < values.length; i++) {
                    long number = Long.decode(numbers[i].replace("L", ""));
                    boolean isLong = method.getParameterTypes()[i] == long.class;
                    values[i] = isLong ? (Object) number : (Object) (int) number;
                }
                return ((Number) method.invoke(street, values)).longValue();
            }
        }
        throw new IllegalStateException("no call " + name);
    }

    private void groups() {
        Matcher group = Pattern.compile("Ahead of the calls (.*) the interface says: (---- .*)\\.").matcher(document);
        int groups = 0;
        while (group.find()) {
            groups++;
            String due = group.group(1).replace("`", "");
            String is = String.join(", ", callsBehind("**" + group.group(2) + "**\n"));
            checks.holds(group.group(2) + " has " + is + ", due is " + due, is.equals(due));
        }
        checks.due("groups", groups, 5);
    }

    private List<String> callsBehind(String title) {
        List<String> calls = new ArrayList<>();
        int from = page.indexOf(title);
        if (from >= 0) {
            int table = page.indexOf("\n|", from);
            Matcher call = Pattern.compile("^\\| `(\\w+)\\(", Pattern.MULTILINE)
                    .matcher(page.substring(table, page.indexOf("\n\n", table)));
            while (call.find()) {
                calls.add(call.group(1));
            }
        }
        return calls;
    }

    private void refusals() {
        Object[][] due = {{"UNKNOWN", PavedAnew.UNKNOWN}, {"OUTSIDE", PavedAnew.OUTSIDE}, {"STATE", PavedAnew.STATE},
            {"FULL", PavedAnew.FULL}};
        for (Object[] one : due) {
            checks.holds("its value: " + one[0], page.contains("| `" + one[0] + "` | " + one[1] + " |"));
        }
        checks.holds("NONE", page.contains("`NONE` (" + PavedAnew.NONE + ")"));
    }

    private void tests() throws IOException {
        try (var files = Files.list(Path.of("src/test/java"))) {
            files.map(file -> file.getFileName().toString()).filter(name -> name.endsWith("Test.java")).sorted()
                    .forEach(name -> checks.holds(name + " is told", page.contains("`" + name.replace(".java", "") + "`")));
        }
        checks.holds("how to run them", page.contains("    .ci/run\n"));
    }
}
