/** Promises 5 to 8: cells that are there and that are not, and the mean of none, one and all. */
public final class CellBoundsTest {
    private static final int[] NEVER = {-1, -2, -40, 40, 41, 48, 64, 255, 65536, Integer.MIN_VALUE,
        Integer.MIN_VALUE + 1, Integer.MAX_VALUE};

    public static void main(String[] args) {
        leastAndGreatestCell();
        noCell();
        noRange();
        noStrength();
        rangeOfNone();
        cellsOfTheLatestOnly();
        meanOfNone();
        meanLeavesOut();
        meanInOrder();
        meanOfForty();
        Due.end();
    }

    private static EpochSifter withCells(int cells) {
        EpochSifter sifter = new EpochSifter();
        int left = cells;
        while (left > 4) {
            Frames.feed(sifter, Observing.of(1, 2).more().block(1, 4).frame());
            left -= 4;
        }
        Frames.feed(sifter, Observing.of(1, 2).block(left == 0 ? 0 : 1, left).frame());
        return sifter;
    }

    private static void leastAndGreatestCell() {
        Due.sentence("Cell k of the latest epoch: 1000 * SYSTEM + 10 * satellite + signal");
        EpochSifter sifter = new EpochSifter();
        Frames.feed(sifter, Observing.of(1, 2).more().message(1000).cell(1, 1, 0, 0).frame());
        Frames.feed(sifter, Observing.of(1, 2).message(1003).cell(16, 4, 0, 0).frame());
        Due.same("the least", sifter.cell(0), 11);
        Due.same("the greatest", sifter.cell(1), 3164);
    }

    private static void noCell() {
        Due.sentence("cell: -1 if there is none");
        for (int cells = 0; cells <= 44; cells++) {
            EpochSifter sifter = withCells(cells);
            int kept = Math.min(cells, 40);
            for (int k = 0; k <= 45; k++) {
                Due.same("cell(" + k + ") of " + cells, sifter.cell(k), k < kept ? 11 + k % 4 : -1);
            }
        }
        for (int k : NEVER) {
            Due.same("cell(" + k + ")", withCells(40).cell(k), -1);
            Due.same("cell(" + k + ") of a new object", new EpochSifter().cell(k), -1);
        }
    }

    private static void noRange() {
        Due.sentence("range: -1.0 also if there is no such cell");
        for (int cells = 0; cells <= 44; cells++) {
            EpochSifter sifter = withCells(cells);
            int kept = Math.min(cells, 40);
            for (int k = 0; k <= 45; k++) {
                Due.same("range(" + k + ") of " + cells, sifter.range(k), k < kept ? 299792.458 : -1.0);
            }
        }
        for (int k : NEVER) {
            Due.same("range(" + k + ")", withCells(40).range(k), -1.0);
            Due.same("range(" + k + ") of a new object", new EpochSifter().range(k), -1.0);
        }
    }

    private static void noStrength() {
        Due.sentence("strength: -1 if there is none");
        for (int cells = 0; cells <= 44; cells++) {
            EpochSifter sifter = withCells(cells);
            int kept = Math.min(cells, 40);
            for (int k = 0; k <= 45; k++) {
                Due.same("strength(" + k + ") of " + cells, sifter.strength(k), k < kept ? 2 + k % 4 : -1);
            }
        }
        for (int k : NEVER) {
            Due.same("strength(" + k + ")", withCells(40).strength(k), -1);
            Due.same("strength(" + k + ") of a new object", new EpochSifter().strength(k), -1);
        }
    }

    private static void rangeOfNone() {
        Due.sentence("The range of cell k of the latest epoch");
        EpochSifter sifter = new EpochSifter();
        Frames.feed(sifter, Observing.of(1, 2).satellite(1, 255, 0).cell(1, 1, 0, 63).satellite(2, 9, 0)
                .cell(2, 1, -16384, 0).frame());
        Due.same("WHOLE 255: the cell is there", Asked.cell(sifter, 0), "11 -1.0 63");
        Due.same("FINE -16384: the cell is there", Asked.cell(sifter, 1), "21 -1.0 0");
        Due.same("no such cell", Asked.cell(sifter, 2), "-1 -1.0 -1");
    }

    private static void cellsOfTheLatestOnly() {
        Due.sentence("of the latest epoch");
        EpochSifter sifter = withCells(3);
        Frames.feed(sifter, Observing.of(5, 5).more().message(1002).block(4, 4).frame());
        Due.same("one is gathered", Asked.cell(sifter, 0), "11 299792.458 2");
        Due.same("none of its cells", Asked.cell(sifter, 3), "-1 -1.0 -1");
        sifter.flush();
        Due.same("one is lost", Asked.cell(sifter, 2), "13 299792.458 4");
        Due.same("the mean of the latest", sifter.mean(), 3 * 299792.458 / 3);
    }

    private static void meanOfNone() {
        Due.sentence("mean: -1.0 if there is none");
        EpochSifter sifter = new EpochSifter();
        Due.same("a new object", sifter.mean(), -1.0);
        Frames.feed(sifter, Observing.of(1, 2).more().block(1, 1).frame());
        Due.same("one is gathered", sifter.mean(), -1.0);
        sifter.flush();
        Due.same("one is lost", sifter.mean(), -1.0);
        Due.same("no cells", withCells(0).mean(), -1.0);
        Frames.feed(sifter, Observing.of(1, 2).satellite(1, 255, 0).cell(1, 1, 0, 0).satellite(2, 1, 0)
                .cell(2, 1, -16384, 0).frame());
        Due.same("cells without ranges", sifter.mean(), -1.0);
    }

    private static void meanLeavesOut() {
        Due.sentence("The mean of the ranges of the latest epoch that are not -1.0");
        EpochSifter sifter = new EpochSifter();
        Frames.feed(sifter, Observing.of(1, 2).satellite(1, 255, 0).cell(1, 1, 0, 0)
                .satellite(2, 6, 0).cell(2, 1, 0, 0).cell(2, 2, -16384, 0).frame());
        Due.same("one of three", sifter.mean(), 6 * 299792.458);
        Frames.feed(sifter, Observing.of(1, 2).satellite(1, 2, 0).cell(1, 1, 0, 0).cell(1, 2, -16384, 0)
                .satellite(2, 4, 0).cell(2, 2, 0, 0).frame());
        Due.same("the first and the last", sifter.mean(), (2 * 299792.458 + 4 * 299792.458) / 2);
        Frames.feed(sifter, Observing.of(1, 2).cell(1, 1, 0, 0).satellite(2, 4, 0).cell(2, 1, 0, 0).frame());
        Due.same("0.0 is one of them", sifter.mean(), 4 * 299792.458 / 2);
        Frames.feed(sifter, Observing.of(1, 2).cell(1, 1, -56, 0).cell(1, 2, -16383, 0).frame());
        double below = -56 / 16777216.0 * 299792.458;
        Due.same("those below 0.0 are too", sifter.mean(), (below + -16383 / 16777216.0 * 299792.458) / 2);
    }

    private static void meanInOrder() {
        Due.sentence("added up in their order");
        EpochSifter sifter = new EpochSifter();
        for (int i = 0; i < 3; i++) {
            Observing observing = Observing.of(1, 2);
            for (int satellite = 1; satellite <= 13; satellite++) {
                observing.satellite(satellite, (41 * satellite + 31 * i) % 255, 77 * satellite + i);
                observing.cell(satellite, 1, 811 * satellite - 5000 * i, 0);
            }
            Frames.feed(sifter, i < 2 ? observing.more().frame() : observing.frame());
        }
        double forward = 0.0;
        double backward = 0.0;
        double inShares = 0.0;
        for (int k = 0; k < 39; k++) {
            forward += sifter.range(k);
            backward += sifter.range(38 - k);
            inShares += sifter.range(k) / 39;
        }
        Due.same("another order would show", forward / 39 != backward / 39 ? 1 : 0, 1);
        Due.same("shares would show", forward / 39 != inShares ? 1 : 0, 1);
        Due.same("39 ranges", sifter.mean(), forward / 39);
    }

    private static void meanOfForty() {
        Due.sentence("The mean of the ranges of the latest epoch: of those that it keeps");
        EpochSifter sifter = new EpochSifter();
        for (int i = 0; i < 10; i++) {
            Frames.feed(sifter, Observing.of(1, 2).more().satellite(1, 8, 0).cell(1, 1, 0, 0)
                    .cell(1, 2, 0, 0).cell(1, 3, 0, 0).cell(1, 4, 0, 0).frame());
        }
        Frames.feed(sifter, Observing.of(1, 2).satellite(1, 200, 0).cell(1, 1, 0, 0).frame());
        double sum = 0.0;
        for (int k = 0; k < 40; k++) {
            sum += 8 * 299792.458;
        }
        Due.same("the 41st does not count", sifter.mean(), sum / 40);
    }
}
