/** Counts and prints the answers that aren't as due. */
final class Due {
    private static int checks = 0;
    private static int wrong = 0;

    private Due() {
    }

    static void is(String what, long got, long want) {
        checks++;
        if (got != want) {
            wrong++;
            if (wrong <= 50) {
                System.out.println(what + " answered " + got + ", due is " + want);
            }
        }
    }

    static void that(String what, boolean holds) {
        is(what, holds ? 1 : 0, 1);
    }

    static void end() {
        System.out.println(checks + " answers looked at, " + wrong + " not as due");
        if (wrong != 0 || checks == 0) {
            System.exit(1);
        }
    }
}
