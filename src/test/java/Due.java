/** Counts the answers that are as due, and tells those that are not. */
final class Due {
    private static int passed;
    private static int failed;
    private static String words = "";

    private Due() {
    }

    /** The document's words that the answers from here on are held against. */
    static void words(String of) {
        words = "\"" + of + "\": ";
    }

    static void is(String call, long got, long want) {
        if (got == want) {
            passed++;
            return;
        }
        failed++;
        System.out.println(words + call + " answered " + got + ", due is " + want);
    }

    static void same(String what, String got, String want) {
        if (got.equals(want)) {
            passed++;
            return;
        }
        failed++;
        System.out.println(words + what + " is not as due:");
        String[] gotLines = got.split("\n");
        String[] wantLines = want.split("\n");
        for (int i = 0; i < Math.min(gotLines.length, wantLines.length); i++) {
            if (!gotLines[i].equals(wantLines[i])) {
                System.out.println("  " + gotLines[i] + ", due is " + wantLines[i]);
            }
        }
    }

    static int failed() {
        return failed;
    }

    /** The closing line; a test's last call. */
    static void close() {
        System.out.println(passed + " passed, " + failed + " failed");
        if (failed > 0 || passed == 0) {
            System.exit(1);
        }
    }
}
