import java.io.IOException;
import java.lang.reflect.Field;
import java.lang.reflect.Method;
import java.lang.reflect.Modifier;
import java.nio.file.Files;
import java.nio.file.Path;
import java.util.ArrayList;
import java.util.LinkedHashMap;
import java.util.List;
import java.util.Map;
import java.util.Set;
import java.util.TreeSet;
import java.util.regex.Matcher;
import java.util.regex.Pattern;

/**
 * The rules of LANGUAGE.md that a look at the program can tell, at times more strictly, as far as
 * the program goes. Runs at the project's root.
 */
public final class LanguageTest {
    private static final String PROGRAM = "src/main/java/LoggedSagaDesk.java";
    private static final String[] FORBIDDEN = {
        "\\b(throw|throws|try|catch|finally|synchronized|volatile|assert|native)\\b",
        "\\b(package|import)\\b", "->", "::", "\\bstatic\\s*\\{", "Exact\\b",
        "\\b(while|do|instanceof|interface|float|double)\\b", "\"",
        "\\bSystem\\.(?!arraycopy\\b)", "\\bMath\\.(?!(max|min)\\b)",
        "\\b(equals|hashCode|toString|getClass)\\b", "\\[\\]\\s*\\[\\]",
        "\\bstatic\\s+(?!final\\b)\\w+(\\[\\])?\\s+\\w+\\s*(=|;)"};
    private static final Set<String> LIBRARY = Set.of("Math", "System");
    private static final Set<Class<?>> PLAIN_TYPES = Set.of(int.class, boolean.class, void.class);
    private static final Pattern METHOD = Pattern.compile(
            "^ +(?:public |private |static |final )*[\\w\\[\\]]+ (\\w+)\\(([^)]*)\\) \\{$");
    private static final Pattern COUNTED_LOOP = Pattern.compile(
            "for \\(int (\\w+) = 0; \\1 < [^;]+; \\1\\+\\+\\) \\{");
    private static final Pattern MADE_WITH_ITS_OBJECT = Pattern.compile(
            " {4,8}private final \\w+(\\[\\])? \\w+ = new .*;");
    private static final int METHOD_LINES = 60;
    private static final int FIELDS = 20;
    private static final int CALLS_DEEP = 8;

    private final String program;
    private final String[] lines;
    private final List<Class<?>> classes = new ArrayList<>();

    private LanguageTest(String text) {
        program = text.replaceAll("(?s)/\\*.*?\\*/", "").replaceAll("//[^\n]*", "");
        lines = program.split("\n");
        classes.add(LoggedSagaDesk.class);
        classes.addAll(List.of(LoggedSagaDesk.class.getDeclaredClasses()));
    }

    public static void main(String[] args) throws IOException {
        LanguageTest test = new LanguageTest(Files.readString(Path.of(PROGRAM)));
        test.checkWords();
        test.checkClasses();
        test.checkLibrary();
        test.checkTypes();
        test.checkMethods();
        test.checkDepth();
        test.checkLoops();
        test.checkObjectsMade();
        Checks.end();
    }

    private void checkWords() {
        for (String forbidden : FORBIDDEN) {
            Matcher found = Pattern.compile(forbidden).matcher(program);
            Checks.due("uses of " + forbidden, found.find() ? found.group() : "none", "none");
        }
    }

    /** Rule 2: a class within a method would have a name of its own among the compiled ones. */
    private void checkClasses() {
        for (Class<?> type : classes) {
            boolean outer = type == LoggedSagaDesk.class;
            Checks.due("classes inside " + type, outer || type.getDeclaredClasses().length == 0, true);
            Checks.due(type + " has a nameless class",
                    LanguageTest.class.getResource(type.getName() + "$1.class") == null, true);
        }
    }

    /** Rule 4: every word that is written as the name of a class is one of ours, or is listed. */
    private void checkLibrary() {
        Set<String> ours = new TreeSet<>();
        classes.forEach(type -> ours.add(type.getSimpleName()));
        Matcher word = Pattern.compile("\\b[A-Z]\\w*[a-z]\\w*").matcher(program);
        while (word.find()) {
            Checks.due("the class " + word.group(),
                    ours.contains(word.group()) || LIBRARY.contains(word.group()), true);
        }
    }

    /** Rules 3, 5 and 11: plain types, static fields that are constants, and not too many fields. */
    private void checkTypes() {
        for (Class<?> type : classes) {
            int fields = 0;
            for (Field field : type.getDeclaredFields()) {
                boolean isStatic = Modifier.isStatic(field.getModifiers());
                fields += isStatic ? 0 : 1;
                Checks.due("type of " + field, isAllowed(field.getType()), true);
                Checks.due(field + " is a constant if it is static", !isStatic
                        || Modifier.isFinal(field.getModifiers()) && field.getType() == int.class, true);
            }
            Checks.due("fields of " + type, fields <= FIELDS, true);
            for (Method method : type.getDeclaredMethods()) {
                Checks.due("type of " + method, isAllowed(method.getReturnType()), true);
                for (Class<?> parameter : method.getParameterTypes()) {
                    Checks.due("parameters of " + method, isAllowed(parameter), true);
                }
            }
        }
    }

    private boolean isAllowed(Class<?> type) {
        return type.isArray() ? isAllowed(type.getComponentType())
                : PLAIN_TYPES.contains(type) || classes.contains(type);
    }

    private void checkMethods() {
        int methods = 0;
        for (int i = 0; i < lines.length; i++) {
            Matcher method = METHOD.matcher(lines[i]);
            if (method.matches()) {
                methods++;
                int parameters = method.group(2).split(",").length;
                Checks.due("parameters:" + lines[i], parameters <= 7, true);
                Checks.due("lines:" + lines[i], endOf(i) - i <= METHOD_LINES, true);
            }
        }
        Checks.due("the methods were found", methods > 19, true);
    }

    private int endOf(int from) {
        String end = lines[from].replaceAll("\\S.*", "") + "}";
        int i = from;
        while (i < lines.length && !lines[i].equals(end)) {
            i++;
        }
        return i;
    }

    /** Rules 8 and 11: no method comes back to itself, and calls go at most eight deep. */
    private void checkDepth() {
        Map<String, String> bodies = new LinkedHashMap<>();
        for (int i = 0; i < lines.length; i++) {
            Matcher method = METHOD.matcher(lines[i]);
            if (method.matches()) {
                String body = String.join("\n", List.of(lines).subList(i + 1, endOf(i)));
                bodies.merge(method.group(1), body, (one, other) -> one + "\n" + other);
            }
        }
        for (String name : bodies.keySet()) {
            Checks.due("calls within " + name + " go at most eight deep",
                    depth(name, bodies, 1) <= CALLS_DEEP, true);
        }
    }

    private static int depth(String name, Map<String, String> bodies, int level) {
        int deepest = level;
        Matcher call = Pattern.compile("\\b(\\w+)\\(").matcher(bodies.get(name));
        while (level <= CALLS_DEEP && call.find()) {
            if (bodies.containsKey(call.group(1))) {
                deepest = Math.max(deepest, depth(call.group(1), bodies, level + 1));
            }
        }
        return deepest;
    }

    /** Rule 9: every loop counts up to a bound that stands in its own line. */
    private void checkLoops() {
        Matcher loop = Pattern.compile("\\bfor\\b[^{]*\\{").matcher(program);
        int loops = 0;
        while (loop.find()) {
            loops++;
            Checks.due("a counter against a bound: " + loop.group(),
                    COUNTED_LOOP.matcher(loop.group()).matches(), true);
        }
        Checks.due("the loops were found", loops > 0, true);
    }

    /** Rule 12, and the one room of all calls: objects are made with the desk and never later. */
    private void checkObjectsMade() {
        boolean inConstructor = false;
        for (String line : lines) {
            if (line.equals("    public LoggedSagaDesk() {")) {
                inConstructor = true;
            } else if (line.equals("    }")) {
                inConstructor = false;
            }
            if (line.contains("new ")) {
                Checks.due("made with the desk: " + line,
                        inConstructor || MADE_WITH_ITS_OBJECT.matcher(line).matches(), true);
            }
        }
    }
}
