import java.io.IOException;
import java.nio.file.Files;
import java.nio.file.Path;
import java.util.regex.Matcher;
import java.util.regex.Pattern;

/** The rules of LANGUAGE.md that a look at the program's text can tell. Runs at the project's root. */
public final class LanguageTest {
    private static final String PROGRAM = "src/main/java/LoggedSagaDesk.java";
    private static final String[] FORBIDDEN = {
        "\\b(throw|throws|try|catch|finally|synchronized|volatile|assert|native)\\b",
        "\\b(package|import)\\b", "->", "::", "\\bstatic\\s*\\{", "Exact\\b",
        "\\b(Random|Thread|Runtime|Class|Object|Map|Set|Scanner|Override)\\b",
        "\\bSystem\\.(?!arraycopy\\b)", "\\bMath\\.(random|sqrt|pow)\\b",
        "\\b(equals|hashCode|toString|getClass)\\b", "\\[\\]\\s*\\[\\]\\s*\\[\\]",
        "\\bstatic\\s+(?!final\\b)\\w+(\\[\\])?\\s+\\w+\\s*(=|;)"};
    private static final Pattern METHOD = Pattern.compile(
            "^ +(?:public |private |static |final )*[\\w\\[\\]]+ \\w+\\(([^)]*)\\) \\{$");
    private static final int METHOD_LINES = 60;

    public static void main(String[] args) throws IOException {
        String program = withoutComments(Files.readString(Path.of(PROGRAM)));
        for (String forbidden : FORBIDDEN) {
            Matcher found = Pattern.compile(forbidden).matcher(program);
            Checks.due("uses of " + forbidden, found.find() ? found.group() : "none", "none");
        }
        checkMethods(program.split("\n"));
        Checks.end();
    }

    private static String withoutComments(String text) {
        return text.replaceAll("(?s)/\\*.*?\\*/", "").replaceAll("//[^\n]*", "");
    }

    private static void checkMethods(String[] lines) {
        int methods = 0;
        for (int i = 0; i < lines.length; i++) {
            Matcher method = METHOD.matcher(lines[i]);
            if (method.matches()) {
                methods++;
                int parameters = method.group(1).split(",").length;
                Checks.due("parameters:" + lines[i], parameters <= 7, true);
                Checks.due("lines:" + lines[i], linesOf(lines, i) <= METHOD_LINES, true);
            }
        }
        Checks.due("the methods were found", methods > 19, true);
    }

    private static int linesOf(String[] lines, int from) {
        String end = lines[from].replaceAll("\\S.*", "") + "}";
        int i = from;
        while (i < lines.length && !lines[i].equals(end)) {
            i++;
        }
        return i - from;
    }
}
