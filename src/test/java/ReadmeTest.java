import java.io.IOException;
import java.lang.reflect.Field;
import java.lang.reflect.Method;
import java.lang.reflect.Modifier;
import java.nio.file.DirectoryStream;
import java.nio.file.Files;
import java.nio.file.Path;
import java.util.Set;
import java.util.TreeSet;
import java.util.regex.Matcher;
import java.util.regex.Pattern;

/**
 * README.md says how to use the class and how to run its tests, and what it says is so. Runs at the
 * project's root.
 */
public final class ReadmeTest {
    private static final Path README = Path.of("README.md");
    private static final Path TESTS = Path.of("src/test/java");
    private static final Pattern EXAMPLE = Pattern.compile("(?s)```java\n(.*?)```");
    private static final Pattern EXAMPLE_CALL = Pattern.compile(
            "desk\\.(\\w+)\\(([-\\d, ]*)\\); +// (-?\\d+|true|BAD|DOWN|FULL|LOCKED)(:.*)?");
    private static final String NEW_DESK = "LoggedSagaDesk desk = new LoggedSagaDesk();";

    public static void main(String[] args) throws IOException, IllegalAccessException {
        Checks.due("README.md is there", Files.isRegularFile(README), true);
        String text = Files.readString(README);
        String use = section(text, "How to use it");
        checkEveryCallIsTold(use);
        checkEveryConstantIsTold(use);
        checkExamples(use);
        checkHowToRun(section(text, "How to run its tests"));
        checkFilesAreThere(text);
        Checks.end();
    }

    /** What stands behind a heading of the second rank, up to the next one. */
    private static String section(String text, String heading) {
        int from = text.indexOf("\n## " + heading + "\n");
        Checks.due("README.md has \"" + heading + "\"", from >= 0, true);
        if (from < 0) {
            return "";
        }
        int to = text.indexOf("\n## ", from + 1);
        return to < 0 ? text.substring(from) : text.substring(from, to);
    }

    private static void checkEveryCallIsTold(String use) {
        for (Method method : LoggedSagaDesk.class.getDeclaredMethods()) {
            if (Modifier.isPublic(method.getModifiers())) {
                Matcher told = Pattern.compile("`" + method.getName() + "\\(([^)]*)\\)`").matcher(use);
                boolean found = told.find();
                Checks.due("README.md tells " + method.getName(), found, true);
                int names = !found || told.group(1).isEmpty() ? 0 : told.group(1).split(",").length;
                Checks.due("parameters of " + method.getName(), names, method.getParameterCount());
            }
        }
    }

    private static void checkEveryConstantIsTold(String use) throws IllegalAccessException {
        for (Field field : LoggedSagaDesk.class.getDeclaredFields()) {
            if (Modifier.isPublic(field.getModifiers())) {
                String row = "| `" + field.getName() + "` | " + field.getInt(null) + " |";
                Checks.due("README.md has " + row, use.contains(row), true);
            }
        }
    }

    private static void checkExamples(String use) {
        Matcher example = EXAMPLE.matcher(use);
        int examples = 0;
        Set<String> names = new TreeSet<>();
        while (example.find()) {
            examples++;
            checkExample(example.group(1).split("\n"), names);
        }
        Checks.due("README.md has examples", examples > 0, true);
        Checks.due("they show begin, flush and deliver",
                names.contains("begin") && names.contains("flush") && names.contains("deliver"), true);
    }

    private static void checkExample(String[] lines, Set<String> names) {
        Checks.due("an example's first line", lines[0], NEW_DESK);
        LoggedSagaDesk desk = new LoggedSagaDesk();
        for (int i = 1; i < lines.length; i++) {
            Matcher call = EXAMPLE_CALL.matcher(lines[i]);
            boolean matches = call.matches();
            Checks.due("is a call with its answer: " + lines[i], matches, true);
            if (matches) {
                names.add(call.group(1));
                Call made = Call.of(call.group(1) + " " + call.group(2).replace(",", ""));
                Checks.due("README.md: " + lines[i], made.on(desk), number(call.group(3)));
            }
        }
    }

    private static int number(String answer) {
        return switch (answer) {
            case "true" -> 1;
            case "BAD" -> LoggedSagaDesk.BAD;
            case "DOWN" -> LoggedSagaDesk.DOWN;
            case "FULL" -> LoggedSagaDesk.FULL;
            case "LOCKED" -> LoggedSagaDesk.LOCKED;
            default -> Integer.parseInt(answer);
        };
    }

    private static void checkHowToRun(String run) throws IOException {
        Checks.due("README.md says to run .ci/run", run.contains("\n    .ci/run\n"), true);
        Checks.due(".ci/run can be run", Files.isExecutable(Path.of(".ci/run")), true);
        Checks.due("the tests that README.md tells", testsTold(run).toString(),
                testsThere().toString());
    }

    private static Set<String> testsTold(String run) {
        Set<String> told = new TreeSet<>();
        Matcher name = Pattern.compile("`(\\w+Test)`").matcher(run);
        while (name.find()) {
            told.add(name.group(1));
        }
        return told;
    }

    private static Set<String> testsThere() throws IOException {
        Set<String> there = new TreeSet<>();
        try (DirectoryStream<Path> files = Files.newDirectoryStream(TESTS, "*Test.java")) {
            for (Path file : files) {
                there.add(file.getFileName().toString().replace(".java", ""));
            }
        }
        return there;
    }

    private static void checkFilesAreThere(String text) {
        Matcher path = Pattern.compile("`([.\\w]+/[./\\w]+|\\w+\\.md)`").matcher(text);
        int told = 0;
        while (path.find()) {
            told++;
            Checks.due(path.group(1) + " is there", Files.exists(Path.of(path.group(1))), true);
        }
        Checks.due("files are told", told > 0, true);
    }
}
