/** Compares answers with those that are due and ends the program with code 1 if one differs. */
final class Checks {
    private static final int PRINTED_AT_MOST = 40;
    private static int made;
    private static int wrong;
    private static String sentence = "";

    private Checks() {
    }

    /** What the document says; the checks that follow are for it. */
    static void sentence(String text) {
        sentence = "\"" + text + "\": ";
    }

    static void due(String call, int got, int want) {
        made++;
        if (got != want) {
            tell(call + " answered " + got + ", due is " + want);
        }
    }

    static void due(String call, boolean got, boolean want) {
        made++;
        if (got != want) {
            tell(call + " answered " + got + ", due is " + want);
        }
    }

    static void due(String call, String got, String want) {
        made++;
        if (!got.equals(want)) {
            tell(call + " answered\n  " + got + ", due is\n  " + want);
        }
    }

    static boolean allRight() {
        return wrong == 0;
    }

    static void end() {
        System.out.println(made + " checks, " + wrong + " wrong");
        if (wrong != 0 || made == 0) {
            System.exit(1);
        }
    }

    private static void tell(String text) {
        wrong++;
        if (wrong <= PRINTED_AT_MOST) {
            System.out.println(sentence + text);
        }
    }
}
