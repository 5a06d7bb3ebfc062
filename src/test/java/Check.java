/** Counts the answers that are not the ones that are due. */
final class Check {
    private static int made = 0;
    private static int wrong = 0;
    private static String sentence = "";
    private static int madeBefore = 0;
    private static int wrongBefore = 0;

    private Check() {
    }

    /** The words of the document that the answers after this one are asked for. */
    static void sentence(String words) {
        endSentence();
        sentence = words;
        madeBefore = made;
        wrongBefore = wrong;
    }

    private static void endSentence() {
        if (sentence.isEmpty()) {
            return;
        }
        if (made == madeBefore) {
            wrong++;
            System.out.println("no answer was asked for: " + sentence);
        }
        if (wrong != wrongBefore) {
            System.out.println("does not hold: " + sentence);
        }
    }

    static void same(String what, long got, long due) {
        made++;
        if (got != due) {
            wrong++;
            System.out.println(what + ": answered " + got + " (0x" + Long.toHexString(got) + "), due is "
                    + due + " (0x" + Long.toHexString(due) + ")");
        }
    }

    static void holds(String what, boolean got) {
        same(what, got ? 1 : 0, 1);
    }

    static void fails(String what, boolean got) {
        same(what, got ? 1 : 0, 0);
    }

    /** To be called at the end of each test's main method. */
    static void end() {
        endSentence();
        System.out.println(made + " answers, " + wrong + " wrong");
        if (made == 0 || wrong != 0) {
            System.exit(1);
        }
    }
}
