/** "Terms", epochs: when one begins, goes on, is lost, is full and is done. */
public final class GatheringBoundsTest {
    public static void main(String[] args) {
        sameTimeAndStation();
        notBothTheSame();
        noneIsGathered();
        lostAndDoneAtOnce();
        firstForty();
        fullWithinAnObservation();
        sameCellAgain();
        doneOnlyWithoutMore();
        latestIsReplaced();
        Due.end();
    }

    private static EpochSifter gathering(int time, int station, int cells) {
        EpochSifter sifter = new EpochSifter();
        Frames.feed(sifter, Observing.of(time, station).more().block(1, cells).frame());
        Due.same("gathered", Frames.counts(sifter), "1 0 0 0 0 0 1 0 0 " + cells);
        return sifter;
    }

    private static void sameTimeAndStation() {
        Due.sentence("An observation has the TIME and STATION of the epoch that is being GATHERED");
        int[][] pairs = {{0, 0}, {1073741823, 4095}, {0, 4095}, {1073741823, 0}, {123456, 77}};
        for (int[] pair : pairs) {
            EpochSifter sifter = gathering(pair[0], pair[1], 2);
            Frames.feed(sifter, Observing.of(pair[0], pair[1]).message(1003).more().block(1, 3).frame());
            Due.same("another system goes on", Frames.counts(sifter), "2 0 0 0 0 0 2 0 0 5");
            Frames.feed(sifter, Observing.of(pair[0], pair[1]).message(1001).frame());
            Due.same("done", Asked.epoch(sifter), pair[0] + " " + pair[1] + " 5 3");
            Due.same("none lost", sifter.count(5), 0);
        }
    }

    private static void notBothTheSame() {
        Due.sentence("or, if they are not both the same, that one is LOST, and a new one begins");
        for (int bit = 0; bit < 30; bit++) {
            EpochSifter sifter = gathering(0, 9, 4);
            Frames.feed(sifter, Observing.of(1 << bit, 9).more().block(1, 1).frame());
            Due.same("bit " + bit + " of TIME", Frames.counts(sifter), "2 0 0 0 0 1 2 0 0 1");
        }
        for (int bit = 0; bit < 12; bit++) {
            EpochSifter sifter = gathering(9, 0, 4);
            Frames.feed(sifter, Observing.of(9, 1 << bit).more().block(1, 1).frame());
            Due.same("bit " + bit + " of STATION", Frames.counts(sifter), "2 0 0 0 0 1 2 0 0 1");
        }
        EpochSifter both = gathering(5, 6, 4);
        Frames.feed(both, Observing.of(6, 5).more().frame());
        Due.same("both, turned about", Frames.counts(both), "2 0 0 0 0 1 2 0 0 0");
        Frames.feed(both, Observing.of(5, 6).frame());
        Due.same("the lost one does not come again", Asked.epoch(both), "5 6 0 1");
        Due.same("lost", both.count(5), 2);
    }

    private static void noneIsGathered() {
        Due.sentence("that one is LOST (if one is being gathered)");
        EpochSifter sifter = new EpochSifter();
        Frames.feed(sifter, Observing.of(0, 0).frame());
        Due.same("the very first", sifter.count(5), 0);
        Frames.feed(sifter, Observing.of(1, 1).frame());
        Due.same("behind one that is done", sifter.count(5), 0);
        Frames.feed(sifter, Observing.of(1, 1).more().block(1, 1).frame());
        Due.same("like the one that is done", Frames.counts(sifter), "3 0 0 0 2 0 3 0 0 1");
        sifter.flush();
        Frames.feed(sifter, Observing.of(2, 2).more().frame());
        Due.same("behind a flush", Frames.counts(sifter), "4 0 0 0 2 1 4 0 0 0");
        Frames.feed(sifter, Observing.of(3, 3).more().frame());
        Due.same("an empty one is one too", Frames.counts(sifter), "5 0 0 0 2 2 5 0 0 0");
    }

    private static void lostAndDoneAtOnce() {
        Due.sentence("that one is LOST, and a new one begins; if MORE is 0, the epoch is DONE");
        EpochSifter sifter = gathering(5, 6, 4);
        Frames.feed(sifter, Observing.of(5, 7).block(2, 1).frame());
        Due.same("counts", Frames.counts(sifter), "2 0 0 0 1 1 2 0 0 -1");
        Due.same("the new one alone", Asked.epoch(sifter), "5 7 2 1");
    }

    private static void firstForty() {
        Due.sentence("an epoch keeps the first 40");
        for (int last = 0; last <= 16; last++) {
            EpochSifter sifter = new EpochSifter();
            Frames.feed(sifter, Observing.of(1, 2).more().block(4, 4).frame());
            Frames.feed(sifter, Observing.of(1, 2).more().message(1001).block(4, 4).frame());
            Frames.feed(sifter, columns(last).more().frame());
            int kept = Math.min(40, 32 + last);
            Due.same("gathered with " + (32 + last), sifter.count(9), kept);
            Frames.feed(sifter, Observing.of(1, 2).frame());
            Due.same("done with " + (32 + last), Asked.epoch(sifter), "1 2 " + kept + " 4");
            int name = last == 0 ? 1044 : 2001 + 10 * (kept - 32);
            Due.same("the last that is kept", sifter.cell(kept - 1), name);
            Due.same("none behind it", Asked.cell(sifter, kept), "-1 -1.0 -1");
        }
    }

    /** So many satellites with one cell each. */
    private static Observing columns(int satellites) {
        Observing observing = Observing.of(1, 2).message(1002);
        // 16 of them are too many for a frame, unless some stand in one row.
        int rows = Math.min(satellites, 15);
        observing.block(rows, 1);
        return satellites == 16 ? observing.satellite(15, 15, 0).cell(15, 2, 0, 0) : observing;
    }

    private static void fullWithinAnObservation() {
        Due.sentence("Its cells come to the epoch, in their order; an epoch keeps the first 40");
        EpochSifter sifter = new EpochSifter();
        for (int system = 0; system <= 3; system++) {
            Observing observing = Observing.of(1, 2).message(1000 + system).block(3, 4);
            Frames.feed(sifter, system < 3 ? observing.more().frame() : observing.frame());
        }
        Due.same("all observations count", Asked.epoch(sifter), "1 2 40 4");
        for (int k = 0; k < 40; k++) {
            int satellite = 1 + k % 12 / 4;
            int signal = 1 + k % 4;
            Due.same("cell " + k, Asked.cell(sifter, k), 1000 * (k / 12) + 10 * satellite + signal + " "
                    + satellite * 299792.458 + " " + (satellite + signal));
        }
        Due.same("cell 40", Asked.cell(sifter, 40), "-1 -1.0 -1");
        // Three times 4 * (1 + 2 + 3), and four cells of satellite 1.
        Due.same("the mean is of 40", Math.round(sifter.mean() / 299792.458 * 40), 76);
    }

    private static void sameCellAgain() {
        Due.sentence("Its cells come to the epoch");
        EpochSifter sifter = new EpochSifter();
        Frames.feed(sifter, Observing.of(1, 2).more().satellite(4, 1, 0).cell(4, 2, 0, 10).frame());
        Frames.feed(sifter, Observing.of(1, 2).satellite(4, 2, 0).cell(4, 2, 0, 20).frame());
        Due.same("both are kept", Asked.epoch(sifter), "1 2 2 2");
        Due.same("the first", Asked.cell(sifter, 0), "42 299792.458 10");
        Due.same("the second", Asked.cell(sifter, 1), "42 599584.916 20");
    }

    private static void doneOnlyWithoutMore() {
        Due.sentence("If MORE is 0, the epoch is DONE");
        EpochSifter sifter = gathering(1, 2, 4);
        for (int i = 2; i <= 10; i++) {
            Frames.feed(sifter, Observing.of(1, 2).more().block(4, 4).frame());
            Due.same("not done", sifter.count(4), 0);
            Due.same("not the latest", sifter.epoch(0), -1);
        }
        Frames.feed(sifter, Observing.of(1, 2).frame());
        Due.same("done", Frames.counts(sifter), "11 0 0 0 1 0 11 0 0 -1");
        Due.same("the latest", Asked.epoch(sifter), "1 2 40 11");
    }

    private static void latestIsReplaced() {
        Due.sentence("and is the LATEST one");
        EpochSifter sifter = new EpochSifter();
        Frames.feed(sifter, Observing.of(9, 9).block(4, 4).frame());
        Frames.feed(sifter, Observing.of(1, 1).message(1001).block(1, 1).frame());
        Due.same("a lower time", Asked.epoch(sifter), "1 1 1 1");
        Due.same("its cell", Asked.cell(sifter, 0), "1011 299792.458 2");
        Due.same("none of the older one", Asked.cell(sifter, 1), "-1 -1.0 -1");
        Frames.feed(sifter, Observing.of(2, 2).more().block(4, 4).frame());
        Due.same("one that is gathered does not show", Asked.epoch(sifter), "1 1 1 1");
        Due.same("nor its cells", Asked.cell(sifter, 1), "-1 -1.0 -1");
        Frames.feed(sifter, Observing.of(3, 3).frame());
        Due.same("an empty one", Asked.epoch(sifter), "3 3 0 1");
        Due.same("no cell", Asked.cell(sifter, 0), "-1 -1.0 -1");
        Due.same("no mean", sifter.mean(), -1.0);
    }
}
