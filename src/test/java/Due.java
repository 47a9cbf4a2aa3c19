/** Counts the answers of a test and tells each that is not the one that is due. */
final class Due {
    private static int passed = 0;
    private static int failed = 0;
    /** What the checks that follow hold; stands ahead of what is told of them. */
    private static String held = "";

    private Due() {
    }

    static void under(String what) {
        held = what;
    }

    static int checks() {
        return passed + failed;
    }

    static void same(String what, long got, long want) {
        if (got == want) {
            passed++;
        } else {
            failed++;
            System.out.println(held + what + " answered " + got + ", due is " + want);
        }
    }

    static void same(String what, boolean got, boolean want) {
        same(what, got ? 1 : 0, want ? 1 : 0);
    }

    static void same(String what, String got, String want) {
        if (got.equals(want)) {
            passed++;
        } else {
            fail(what + " answered " + got + ", due is " + want);
        }
    }

    static void fail(String what) {
        failed++;
        System.out.println(held + what);
    }

    static void pass() {
        passed++;
    }

    /** The closing line; ends the test with exit code 1 if an answer was wrong. */
    static void close(String test) {
        System.out.println(test + ": " + passed + " passed, " + failed + " failed");
        if (failed != 0) {
            System.exit(1);
        }
    }
}
