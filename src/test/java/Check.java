/** Counts the answers that are not the ones that are due. */
final class Check {
    private static int made = 0;
    private static int wrong = 0;

    private Check() {
    }

    static void same(String what, long got, long due) {
        made++;
        if (got != due) {
            wrong++;
            System.out.println(what + ": answered " + got + " (0x" + Long.toHexString(got) + "), due is "
                    + due + " (0x" + Long.toHexString(due) + ")");
        }
    }

    static void holds(String what, boolean got) {
        same(what, got ? 1 : 0, 1);
    }

    static void fails(String what, boolean got) {
        same(what, got ? 1 : 0, 0);
    }

    /** To be called at the end of each test's main method. */
    static void end() {
        System.out.println(made + " answers, " + wrong + " wrong");
        if (made == 0 || wrong != 0) {
            System.exit(1);
        }
    }
}
