/** Compares answers with those that are due, and ends the test's run with what it found. */
final class Due {
    private static int compared = 0;
    private static int wrong = 0;

    private Due() {}

    static void same(String what, long got, long want) {
        compared++;
        if (got != want) {
            tell(what, String.valueOf(got), String.valueOf(want));
        }
    }

    /** Bit for bit: 0.0 and -0.0 differ. */
    static void same(String what, double got, double want) {
        compared++;
        if (Double.doubleToLongBits(got) != Double.doubleToLongBits(want)) {
            tell(what, String.valueOf(got), String.valueOf(want));
        }
    }

    static void same(String what, String got, String want) {
        compared++;
        if (!got.equals(want)) {
            tell(what, got, want);
        }
    }

    private static void tell(String what, String got, String want) {
        wrong++;
        if (wrong <= 20) {
            System.out.println(what + " answered " + got + ", due is " + want);
        }
    }

    static void end() {
        System.out.println(compared + " answers compared, " + wrong + " not as due");
        if (wrong != 0 || compared == 0) {
            System.exit(1);
        }
    }
}
