/** Counts and prints the answers that are not the ones that are due. */
final class Due {
    private static final int MOST_PRINTED = 40;
    private static final int SHOWN = 200;
    private static int wrong = 0;
    private static String where = "";

    private Due() {
    }

    /** What the next answers are about: printed with each that is wrong. */
    static void about(String what) {
        where = what;
    }

    static void same(String what, long got, long want) {
        if (got != want) {
            tell(what + " answered " + got + ", due is " + want);
        }
    }

    static void same(String what, boolean got, boolean want) {
        if (got != want) {
            tell(what + " answered " + got + ", due is " + want);
        }
    }

    static void same(String what, String got, String want) {
        if (!got.equals(want)) {
            int from = Math.max(0, firstDifference(got, want) - SHOWN / 2);
            tell(what + " is [" + part(got, from) + "], due is [" + part(want, from) + "]");
        }
    }

    private static int firstDifference(String got, String want) {
        int i = 0;
        while (i < got.length() && i < want.length() && got.charAt(i) == want.charAt(i)) {
            i++;
        }
        return i;
    }

    /** Texts of many cells are long: what is shown is where they begin to differ. */
    private static String part(String text, int from) {
        int end = Math.min(text.length(), from + SHOWN);
        return (from == 0 ? "" : "..") + text.substring(from, end) + (end == text.length() ? "" : "..");
    }

    static void tell(String fault) {
        wrong++;
        if (wrong <= MOST_PRINTED) {
            System.out.println(where + ": " + fault);
        }
    }

    static boolean allRight() {
        return wrong == 0;
    }

    /** Ends the test with 1 if an answer was wrong. */
    static void end(String right) {
        System.out.println(wrong == 0 ? right : wrong + " answers are not as due");
        if (wrong != 0) {
            System.exit(1);
        }
    }
}
