/** "Terms", the range of a cell: the least and greatest numbers, and those that stand for none. */
public final class RangeBoundsTest {
    public static void main(String[] args) {
        byHand();
        everyWhole();
        wholeOfNone();
        fineOfNone();
        ends();
        Due.end();
    }

    private static EpochSifter fedWith(int whole, int part, int fine) {
        EpochSifter sifter = new EpochSifter();
        Frames.feed(sifter, Observing.of(1, 2).satellite(6, whole, part).cell(6, 2, fine, 33).frame());
        Due.same("the cell is there", sifter.cell(0), 62);
        Due.same("its strength is there", sifter.strength(0), 33);
        return sifter;
    }

    private static void byHand() {
        Due.sentence("(WHOLE + PART / 1024.0 + FINE / 16777216.0) * 299792.458");
        Due.same("0 0 0", fedWith(0, 0, 0).range(0), 0.0);
        Due.same("1 0 0", fedWith(1, 0, 0).range(0), 299792.458);
        Due.same("1 512 0", fedWith(1, 512, 0).range(0), 449688.687);
        Due.same("2 256 0", fedWith(2, 256, 0).range(0), 674533.0305);
        Due.same("0 16 0 and a 64th less", fedWith(0, 16, -16383).range(0),
                (16 * 16384 - 16383) / 16777216.0 * 299792.458);
    }

    private static void everyWhole() {
        Due.sentence("each as a double, in this order");
        int apart = 0;
        for (int whole = 0; whole <= 254; whole++) {
            int part = whole * 37 % 1024;
            int fine = whole * 129 - 16383;
            // The sum is a whole number of 2^-24, so that it is exact; the product is rounded once.
            double sum = (whole * 16777216L + part * 16384L + fine) / 16777216.0;
            Due.same("whole " + whole, fedWith(whole, part, fine).range(0), sum * 299792.458);
            double piecewise = whole * 299792.458 + part / 1024.0 * 299792.458
                    + fine / 16777216.0 * 299792.458;
            apart += sum * 299792.458 == piecewise ? 0 : 1;
        }
        Due.same("another order would show", apart > 50 ? 1 : 0, 1);
    }

    private static void wholeOfNone() {
        Due.sentence("-1.0 if WHOLE is 255");
        int[] parts = {0, 1, 512, 1023};
        for (int part : parts) {
            Due.same("255 " + part, fedWith(255, part, 0).range(0), -1.0);
            Due.same("254 " + part, fedWith(254, part, 0).range(0), (254 + part / 1024.0) * 299792.458);
        }
        Due.same("255 is not the greatest PART's low bits", fedWith(1, 255, 0).range(0),
                (1 + 255 / 1024.0) * 299792.458);
    }

    private static void fineOfNone() {
        Due.sentence("-1.0 if FINE is -16384");
        int[] wholes = {0, 1, 128, 254, 255};
        for (int whole : wholes) {
            Due.same(whole + " and -16384", fedWith(whole, 5, -16384).range(0), -1.0);
        }
        Due.same("-16383", fedWith(1, 0, -16383).range(0), (1 - 16383 / 16777216.0) * 299792.458);
        Due.same("16383", fedWith(1, 0, 16383).range(0), (1 + 16383 / 16777216.0) * 299792.458);
    }

    private static void ends() {
        Due.sentence("The RANGE of a cell: the least and the greatest");
        Due.same("the least", fedWith(0, 0, -16383).range(0), -16383 / 16777216.0 * 299792.458);
        Due.same("the nearest to -1.0 from below", fedWith(0, 0, -56).range(0), -56 / 16777216.0 * 299792.458);
        Due.same("the nearest to -1.0 from above", fedWith(0, 0, -55).range(0), -55 / 16777216.0 * 299792.458);
        Due.same("the greatest", fedWith(254, 1023, 16383).range(0),
                (254 + 1023 / 1024.0 + 16383 / 16777216.0) * 299792.458);
    }
}
