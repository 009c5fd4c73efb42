/** Compares answers with those that are due, and ends a test. */
final class Due {
    private static int checks;
    private static int wrong;

    private Due() {
    }

    static void is(String call, long got, long want) {
        checks++;
        if (got != want) {
            wrong++;
            if (wrong <= 30) {
                System.out.println(call + " answered " + got + ", due is " + want);
            }
        }
    }

    static void that(String what, boolean holds) {
        is(what, holds ? 1 : 0, 1);
    }

    /** Prints how many answers were compared; ends with exit code 1 if one was not as due. */
    static void end() {
        System.out.println(checks + " answers compared, " + wrong + " not as due");
        if (wrong > 0 || checks == 0) {
            System.exit(1);
        }
    }
}
