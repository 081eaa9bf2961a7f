/** Compares answers with those that are due, and ends the test's run with what it found. */
final class Due {
    private static int compared = 0;
    private static int wrong = 0;
    private static int sentences = 0;
    private static String sentence = "";
    private static int comparedBefore = -1;

    private Due() {}

    /** Names the sentence of the document that the answers behind this line are held to. */
    static void sentence(String text) {
        endSentence();
        sentences++;
        sentence = text;
        comparedBefore = compared;
    }

    /** A sentence for which nothing is compared has no test. */
    private static void endSentence() {
        if (comparedBefore == compared) {
            tell("nothing", "no comparison", "one at least");
        }
        comparedBefore = -1;
    }

    static void same(String what, long got, long want) {
        compared++;
        if (got != want) {
            tell(what, String.valueOf(got), String.valueOf(want));
        }
    }

    /** Bit for bit: 0.0 and -0.0 differ. */
    static void same(String what, double got, double want) {
        compared++;
        if (Double.doubleToLongBits(got) != Double.doubleToLongBits(want)) {
            tell(what, String.valueOf(got), String.valueOf(want));
        }
    }

    static void same(String what, String got, String want) {
        compared++;
        if (!got.equals(want)) {
            tell(what, got, want);
        }
    }

    private static void tell(String what, String got, String want) {
        wrong++;
        if (wrong <= 20) {
            String heading = sentence.isEmpty() ? "" : "\"" + sentence + "\": ";
            System.out.println(heading + what + " answered " + got + ", due is " + want);
        }
    }

    static void end() {
        endSentence();
        String held = sentences == 0 ? "" : sentences + " sentences held to, ";
        System.out.println(held + compared + " answers compared, " + wrong + " not as due");
        if (wrong != 0 || compared == 0) {
            System.exit(1);
        }
    }
}
