/** Promises 1, 3 and 4: each count at its ends, other numbers, and epochs that are not there. */
public final class CountBoundsTest {
    private static final int[] WRONG = {-1, -2, -9, 10, 11, 12, 16, 255, 256, 257, 65536,
        Integer.MIN_VALUE, Integer.MIN_VALUE + 8, Integer.MAX_VALUE};

    public static void main(String[] args) {
        newObject();
        sinceTheConstructor();
        eachCountAlone();
        keptNow();
        cellsBeingGathered();
        otherCounts();
        noEpoch();
        otherEpochNumbers();
        emptyEpoch();
        Due.end();
    }

    private static EpochSifter busy() {
        EpochSifter sifter = new EpochSifter();
        Frames.feed(sifter, Observing.of(11, 12).block(1, 2).frame());
        Frames.feed(sifter, Frames.position(1, 2, 3, 4, 5));
        Frames.feed(sifter, 7, 7, 7);
        Frames.feed(sifter, Observing.of(13, 14).more().block(1, 3).frame());
        Frames.feed(sifter, 211, 0);
        return sifter;
    }

    private static void newObject() {
        Due.sentence("Nothing is kept, counted or gathered.");
        busy();
        EpochSifter sifter = new EpochSifter();
        for (int what = 0; what <= 8; what++) {
            Due.same("count(" + what + ")", sifter.count(what), 0);
        }
        Due.same("count(9)", sifter.count(9), -1);
        Due.same("flush()", sifter.flush(), 0);
        Due.same("none was lost", sifter.count(5), 0);
        Due.same("no epoch", Asked.epoch(sifter), "-1 -1 -1 -1");
        Due.same("no cell", Asked.cell(sifter, 0), "-1 -1.0 -1");
        Due.same("no position", Asked.position(sifter), "0 0 0 0 0");
    }

    private static void sinceTheConstructor() {
        Due.sentence("Counts since the constructor");
        EpochSifter sifter = busy();
        Due.same("before", Frames.counts(sifter), "2 1 3 0 1 0 2 1 2 3");
        sifter.flush();
        Due.same("a flush takes none away", Frames.counts(sifter), "2 1 3 0 1 1 2 1 0 -1");
        Frames.feed(sifter, Observing.of(11, 12).block(1, 2).frame());
        Due.same("they go on", Frames.counts(sifter), "3 1 3 0 2 1 3 1 0 -1");
        Due.same("asking does not change them", Frames.counts(sifter), "3 1 3 0 2 1 3 1 0 -1");
    }

    private static void eachCountAlone() {
        Due.sentence("0 long frames, 1 short frames, 2 skipped bytes, 3 foreign frames, 4 epochs done, "
                + "5 epochs lost, 6 observations, 7 positions");
        counts("1 0 0 1 0 0 0 0 0 -1", Frames.longFrame(5));
        counts("0 1 0 1 0 0 0 0 0 -1", Frames.shortFrame(5, 5));
        counts("0 0 1 0 0 0 0 0 0 -1", Frames.row(5));
        counts("1 0 0 0 1 0 1 0 0 -1", Observing.of(1, 2).frame());
        counts("1 0 0 0 0 0 1 0 0 0", Observing.of(1, 2).more().frame());
        counts("2 0 0 0 0 1 2 0 0 0", Frames.join(Observing.of(1, 2).more().frame(),
                Observing.of(2, 2).more().frame()));
        counts("2 0 0 0 1 1 2 0 0 -1", Frames.join(Observing.of(1, 2).more().frame(),
                Observing.of(2, 2).frame()));
        counts("0 1 0 0 0 0 0 1 0 -1", Frames.position(1, 2, 3, 4, 5));
        counts("0 1 0 1 0 0 0 0 0 -1", Frames.position(1, 1, 3, 4, 5));
    }

    private static void counts(String due, int[] bytes) {
        EpochSifter sifter = new EpochSifter();
        Frames.feed(sifter, bytes);
        Due.same("counts", Frames.counts(sifter), due);
    }

    private static void keptNow() {
        Due.sentence("8: bytes that are kept now");
        EpochSifter sifter = new EpochSifter();
        int[] frame = Frames.shortFrame(1, 1, 9);
        for (int i = 0; i < frame.length; i++) {
            Due.same("before byte " + i, sifter.count(8), i);
            sifter.put(frame[i], 1);
        }
        Due.same("the frame is taken", sifter.count(8), 0);
        sifter.put(9, 1);
        Due.same("a skipped byte", sifter.count(8), 0);
    }

    private static void cellsBeingGathered() {
        Due.sentence("9: cells of the epoch that is being gathered (-1 if none is)");
        EpochSifter sifter = new EpochSifter();
        Due.same("none yet", sifter.count(9), -1);
        Frames.feed(sifter, Observing.of(1, 2).more().frame());
        Due.same("one without cells", sifter.count(9), 0);
        Frames.feed(sifter, Observing.of(1, 2).more().block(1, 1).frame());
        Due.same("a cell", sifter.count(9), 1);
        Frames.feed(sifter, Observing.of(1, 2).block(1, 1).frame());
        Due.same("done", sifter.count(9), -1);
        int[] due = {16, 32, 40, 40};
        for (int cells : due) {
            Frames.feed(sifter, Observing.of(1, 2).more().block(4, 4).frame());
            Due.same("those that it keeps", sifter.count(9), cells);
        }
        Frames.feed(sifter, Observing.of(2, 2).more().block(1, 2).frame());
        Due.same("the one before is lost", sifter.count(9), 2);
        sifter.flush();
        Due.same("flushed", sifter.count(9), -1);
    }

    private static void otherCounts() {
        Due.sentence("-1 for another what");
        EpochSifter fresh = new EpochSifter();
        EpochSifter busy = busy();
        for (int what : WRONG) {
            Due.same("count(" + what + ") of a new object", fresh.count(what), -1);
            Due.same("count(" + what + ")", busy.count(what), -1);
        }
    }

    private static void noEpoch() {
        Due.sentence("Of the latest epoch: -1 if there is none");
        EpochSifter sifter = new EpochSifter();
        Due.same("a new object", Asked.epoch(sifter), "-1 -1 -1 -1");
        Frames.feed(sifter, Observing.of(5, 6).more().block(2, 2).frame());
        Due.same("one is gathered", Asked.epoch(sifter), "-1 -1 -1 -1");
        Frames.feed(sifter, Observing.of(7, 6).more().block(2, 2).frame());
        Due.same("one is lost", Asked.epoch(sifter), "-1 -1 -1 -1");
        sifter.flush();
        Due.same("one is flushed", Asked.epoch(sifter), "-1 -1 -1 -1");
        Frames.feed(sifter, Observing.of(5, 6).message(1004).frame());
        Due.same("a foreign frame", Asked.epoch(sifter), "-1 -1 -1 -1");
    }

    private static void otherEpochNumbers() {
        Due.sentence("or for another what");
        EpochSifter sifter = busy();
        int[] near = {4, 5, 6, 7, 8, 9};
        for (int what : near) {
            Due.same("epoch(" + what + ")", sifter.epoch(what), -1);
        }
        for (int what : WRONG) {
            Due.same("epoch(" + what + ")", sifter.epoch(what), -1);
        }
        Due.same("the four", Asked.epoch(sifter), "11 12 2 1");
    }

    private static void emptyEpoch() {
        Due.sentence("0 TIME, 1 STATION, 2 how many cells it keeps, 3 how many observations it had");
        EpochSifter sifter = new EpochSifter();
        Frames.feed(sifter, Observing.of(0, 0).frame());
        Due.same("all of them 0", Asked.epoch(sifter), "0 0 0 1");
        for (int i = 0; i < 20; i++) {
            Frames.feed(sifter, Observing.of(1073741823, 4095).more().frame());
        }
        Frames.feed(sifter, Observing.of(1073741823, 4095).block(4, 4).frame());
        Due.same("the greatest", Asked.epoch(sifter), "1073741823 4095 16 21");
    }
}
