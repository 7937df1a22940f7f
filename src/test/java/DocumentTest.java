import java.io.IOException;
import java.nio.file.Files;
import java.nio.file.Path;
import java.util.LinkedHashMap;
import java.util.Map;
import java.util.regex.Matcher;
import java.util.regex.Pattern;

/**
 * TESTS.md goes through the document: no sentence is left out or told otherwise, and each has tests
 * that are there and are run. Runs at the project's root.
 */
public final class DocumentTest {
    private static final Path DOCUMENT = Path.of("../shared/DOC.md");
    private static final Path LEDGER = Path.of("TESTS.md");
    private static final Path TESTS = Path.of("src/test/java");
    private static final String NOT_PROMISED = "Not promised";
    private static final int PROMISES = 20;
    private static final Pattern ROW = Pattern.compile("\\| (.+) \\| ([\\w., ]+) \\|");
    private static final String TABLE_HEAD = "| The document | Tests |";

    public static void main(String[] args) throws IOException {
        Map<String, String> document = documentSections();
        Checks.due("the document ends with what is not promised",
                document.remove(NOT_PROMISED) != null, true);
        Map<String, String> ledger = ledgerSections();
        Checks.due("sections of TESTS.md", ledger.keySet().toString(), document.keySet().toString());
        Checks.due("promises", ledger.keySet().stream()
                .filter(name -> name.startsWith("Promise ")).count() == PROMISES, true);
        for (Map.Entry<String, String> section : document.entrySet()) {
            Checks.due("TESTS.md, " + section.getKey(),
                    ledger.getOrDefault(section.getKey(), "nothing"), section.getValue());
        }
        Checks.end();
    }

    /** What stands under each heading of the second rank, without marks of code and line ends. */
    private static Map<String, String> documentSections() throws IOException {
        Map<String, String> sections = new LinkedHashMap<>();
        String heading = "";
        for (String line : Files.readAllLines(DOCUMENT)) {
            if (line.startsWith("## ")) {
                heading = line.substring(3);
                sections.put(heading, "");
            } else if (!line.startsWith("# ") && !line.startsWith("```")) {
                sections.computeIfPresent(heading, (name, text) -> joined(text, line));
            }
        }
        return sections;
    }

    private static Map<String, String> ledgerSections() throws IOException {
        Map<String, String> sections = new LinkedHashMap<>();
        String heading = "";
        for (String line : Files.readAllLines(LEDGER)) {
            Matcher row = ROW.matcher(line);
            if (line.startsWith("## ")) {
                heading = line.substring(3);
                sections.put(heading, "");
            } else if (!line.equals(TABLE_HEAD) && row.matches()) {
                String sentence = row.group(1);
                sections.computeIfPresent(heading, (name, text) -> joined(text, sentence));
                checkTests(sentence, row.group(2));
            }
        }
        return sections;
    }

    private static String joined(String text, String line) {
        return (text + " " + line).replaceAll("\\s+", " ").trim();
    }

    private static void checkTests(String sentence, String tests) throws IOException {
        for (String test : tests.split(", ")) {
            int dot = test.indexOf('.');
            String type = dot < 0 ? test : test.substring(0, dot);
            Path source = TESTS.resolve(type + ".java");
            boolean there = type.endsWith("Test") && Files.isRegularFile(source);
            Checks.due("the test of \"" + sentence + "\" is there: " + test, there, true);
            if (there && dot >= 0) {
                Checks.due("the test of \"" + sentence + "\" is run: " + test,
                        isRun(Files.readString(source), test.substring(dot + 1)), true);
            }
        }
    }

    private static boolean isRun(String source, String method) {
        int main = source.indexOf("public static void main(");
        int end = source.indexOf("\n    }\n", main);
        return main >= 0 && source.substring(main, end).contains("\n        " + method + "();\n")
                && source.contains("private static void " + method + "() {\n");
    }
}
