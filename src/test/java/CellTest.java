/** Promise 5. */
public final class CellTest {
    public static void main(String[] args) {
        everyCell();
        orderOfCells();
        firstForty();
        Due.end();
    }

    private static void everyCell() {
        for (int system = 0; system <= 3; system++) {
            for (int satellite = 1; satellite <= 16; satellite++) {
                for (int signal = 1; signal <= 4; signal++) {
                    EpochSifter sifter = new EpochSifter();
                    Frames.feed(sifter, Observing.of(1, 2).message(1000 + system)
                            .cell(satellite, signal, 0, 0).frame());
                    Due.same("cell", sifter.cell(0), 1000 * system + 10 * satellite + signal);
                    Due.same("no other", sifter.cell(1), -1);
                }
            }
        }
    }

    private static void orderOfCells() {
        EpochSifter sifter = new EpochSifter();
        // Satellites 2 and 8 have no cell, and signal 3 is on without one.
        Frames.feed(sifter, Observing.of(1, 2).message(1003).more().satellite(2, 1, 1).signal(3)
                .cell(3, 4, 0, 0).cell(7, 1, 0, 0).cell(7, 4, 0, 0).satellite(8, 1, 1)
                .cell(16, 1, 0, 0).frame());
        Due.same("gathered only", sifter.cell(0), -1);
        Frames.feed(sifter, Observing.of(1, 2).message(1001).cell(1, 2, 0, 0).cell(3, 2, 0, 0).frame());
        int[] due = {3034, 3071, 3074, 3161, 1012, 1032, -1};
        for (int k = 0; k < due.length; k++) {
            Due.same("cell(" + k + ")", sifter.cell(k), due[k]);
        }
        int[] wrong = {-1, 40, 41, Integer.MIN_VALUE, Integer.MAX_VALUE};
        for (int k : wrong) {
            Due.same("cell(" + k + ")", sifter.cell(k), -1);
        }
        Frames.feed(sifter, Observing.of(1, 2).cell(5, 1, 0, 0).frame());
        Due.same("the newer epoch's", sifter.cell(0), 51);
        Due.same("none is left of the older one", sifter.cell(1), -1);
    }

    private static void firstForty() {
        EpochSifter sifter = new EpochSifter();
        for (int system = 0; system <= 2; system++) {
            Observing observing = Observing.of(1, 2).message(1000 + system).block(4, 4);
            Frames.feed(sifter, system < 2 ? observing.more().frame() : observing.frame());
        }
        for (int k = 0; k < 40; k++) {
            int due = 1000 * (k / 16) + 10 * (k % 16 / 4 + 1) + k % 4 + 1;
            Due.same("cell(" + k + ")", sifter.cell(k), due);
        }
        Due.same("cell(40)", sifter.cell(40), -1);
        Due.same("range(40)", sifter.range(40), -1.0);
        Due.same("strength(40)", sifter.strength(40), -1);
    }
}
