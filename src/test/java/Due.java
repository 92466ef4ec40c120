/** Counts and prints the answers that aren't as due. */
final class Due {
    private static int checks = 0;
    private static int wrong = 0;
    private static String quoted = "";

    private Due() {
    }

    /**
     * Quotes words of the document: the answers that are looked at next would not be as due if
     * these were broken. The words must stand in that promise; 0 is all ahead of the first one.
     */
    static void sentence(int promise, String words) {
        quoted = "";
        that("promise " + promise + " has the words: " + words, Document.has(promise, words));
        quoted = "[" + promise + ": " + words + "] ";
    }

    static void is(String what, long got, long want) {
        checks++;
        if (got != want) {
            wrong++;
            if (wrong <= 50) {
                System.out.println(quoted + what + " answered " + got + ", due is " + want);
            }
        }
    }

    static void that(String what, boolean holds) {
        is(what, holds ? 1 : 0, 1);
    }

    static void end() {
        System.out.println(checks + " answers looked at, " + wrong + " not as due");
        if (wrong != 0 || checks == 0) {
            System.exit(1);
        }
    }
}
