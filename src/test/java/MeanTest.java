/** Promise 8. */
public final class MeanTest {
    public static void main(String[] args) {
        EpochSifter sifter = new EpochSifter();
        Frames.feed(sifter, Observing.of(1, 2).more().satellite(1, 3, 0).cell(1, 1, 0, 0).frame());
        Due.same("gathered only", sifter.mean(), -1.0);
        Frames.feed(sifter, Observing.of(1, 2).satellite(1, 4, 0).cell(1, 1, 0, 0)
                .cell(1, 2, -16384, 0).satellite(2, 255, 0).cell(2, 1, 0, 0).frame());
        Due.same("of two", sifter.mean(), (3 * 299792.458 + 4 * 299792.458) / 2);
        Frames.feed(sifter, Observing.of(1, 2).satellite(1, 255, 0).cell(1, 1, 0, 0).frame());
        Due.same("only -1.0", sifter.mean(), -1.0);
        Frames.feed(sifter, Observing.of(1, 2).satellite(1, 0, 0).cell(1, 1, 0, 0).frame());
        Due.same("a range of 0.0 is one", sifter.mean(), 0.0);
        Frames.feed(sifter, Observing.of(1, 2).satellite(1, 0, 0).cell(1, 1, -100, 0).frame());
        Due.same("below 0", sifter.mean(), -100 / 16777216.0 * 299792.458);
        Frames.feed(sifter, Observing.of(1, 2).frame());
        Due.same("no cells", sifter.mean(), -1.0);
        addedUpInOrder(sifter);
        Due.end();
    }

    private static void addedUpInOrder(EpochSifter sifter) {
        for (int i = 0; i < 3; i++) {
            Observing observing = Observing.of(1, 2);
            for (int satellite = 1; satellite <= 13; satellite++) {
                observing.satellite(satellite, 60 + satellite * 7 + i, 77 * satellite + i);
                observing.cell(satellite, 1, 811 * satellite - 5000 * i, 0);
            }
            Frames.feed(sifter, i < 2 ? observing.more().frame() : observing.frame());
        }
        double sum = 0.0;
        for (int k = 0; k < 39; k++) {
            sum += sifter.range(k);
        }
        Due.same("of 39", sifter.mean(), sum / 39);
    }
}
