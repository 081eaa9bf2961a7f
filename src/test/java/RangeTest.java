/** Promise 6. */
public final class RangeTest {
    public static void main(String[] args) {
        edges();
        rowsAreApart();
        wrongCells();
        Due.end();
    }

    private static double reckoned(int whole, int part, int fine) {
        double sum = whole;
        sum += part / 1024.0;
        sum += fine / 16777216.0;
        return sum * 299792.458;
    }

    private static double answered(int whole, int part, int fine) {
        EpochSifter sifter = new EpochSifter();
        Frames.feed(sifter, Observing.of(1, 2).satellite(6, whole, part).cell(6, 2, fine, 63).frame());
        return sifter.range(0);
    }

    private static void edges() {
        int[] wholes = {0, 1, 70, 127, 128, 254};
        int[] parts = {0, 1, 511, 512, 1023};
        int[] fines = {-16383, -16382, -8192, -56, -1, 0, 1, 8191, 16383};
        for (int whole : wholes) {
            for (int part : parts) {
                for (int fine : fines) {
                    String call = "range of " + whole + " " + part + " " + fine;
                    Due.same(call, answered(whole, part, fine), reckoned(whole, part, fine));
                }
            }
        }
        Due.same("WHOLE 255", answered(255, 3, 4), -1.0);
        Due.same("FINE -16384", answered(70, 3, -16384), -1.0);
        Due.same("both", answered(255, 1023, -16384), -1.0);
        Due.same("by hand", answered(1, 512, 0), 449688.687);
    }

    private static void rowsAreApart() {
        EpochSifter sifter = new EpochSifter();
        Frames.feed(sifter, Observing.of(1, 2).satellite(1, 9, 9).satellite(2, 70, 100)
                .satellite(4, 255, 200).satellite(5, 80, 300).cell(2, 1, -5, 1).cell(2, 3, 6, 2)
                .cell(4, 1, 7, 3).cell(5, 1, -16384, 4).cell(5, 2, 16383, 5).frame());
        double[] due = {reckoned(70, 100, -5), reckoned(70, 100, 6), -1.0, -1.0,
            reckoned(80, 300, 16383), -1.0};
        for (int k = 0; k < due.length; k++) {
            Due.same("range(" + k + ")", sifter.range(k), due[k]);
        }
    }

    private static void wrongCells() {
        EpochSifter sifter = new EpochSifter();
        Frames.feed(sifter, Observing.of(1, 2).more().block(2, 2).frame());
        Due.same("gathered only", sifter.range(0), -1.0);
        Frames.feed(sifter, Observing.of(1, 2).frame());
        int[] wrong = {-1, 4, 40, 41, Integer.MIN_VALUE, Integer.MAX_VALUE};
        for (int k : wrong) {
            Due.same("range(" + k + ")", sifter.range(k), -1.0);
        }
        Due.same("range(3)", sifter.range(3), reckoned(2, 0, 0));
    }
}
