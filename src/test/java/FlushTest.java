/** Promise 13. */
public final class FlushTest {
    public static void main(String[] args) {
        keptBytes();
        gatheredEpoch();
        streamBeginsAnew();
        Due.end();
    }

    private static void keptBytes() {
        EpochSifter sifter = new EpochSifter();
        Frames.feed(sifter, 1, 211, 0, 90, 5, 6);
        Due.same("flush()", sifter.flush(), 5);
        Due.same("counts", Frames.counts(sifter), "0 0 1 0 0 0 0 0 0 -1");
        Due.same("again", sifter.flush(), 0);
        Due.same("counts again", Frames.counts(sifter), "0 0 1 0 0 0 0 0 0 -1");
        Frames.feed(sifter, Frames.head(Frames.shortFrame(1, 2, new int[90]), 97));
        Due.same("as many as can be", sifter.flush(), 97);
    }

    private static void gatheredEpoch() {
        EpochSifter sifter = new EpochSifter();
        Frames.feed(sifter, Observing.of(5, 6).block(1, 3).frame());
        Frames.feed(sifter, Frames.position(1, 2, 3, 4, 5));
        Frames.feed(sifter, Observing.of(7, 8).more().block(1, 2).frame());
        Due.same("flush()", sifter.flush(), 0);
        Due.same("counts", Frames.counts(sifter), "2 1 0 0 1 1 2 1 0 -1");
        Due.same("again", sifter.flush(), 0);
        Due.same("lost once", sifter.count(5), 1);
        Due.same("the latest epoch stays", sifter.epoch(2), 3);
        Due.same("the latest position stays", sifter.fix(), 2);
        Frames.feed(sifter, Observing.of(7, 8).block(1, 1).frame());
        Due.same("the same epoch begins anew", sifter.epoch(2), 1);
        Due.same("its observations", sifter.epoch(3), 1);
        Due.same("nothing more is lost", sifter.count(5), 1);
    }

    private static void streamBeginsAnew() {
        EpochSifter sifter = new EpochSifter();
        int[] frame = Frames.position(1, 2, 3, 4, 5);
        Frames.feed(sifter, Frames.head(frame, 20));
        sifter.flush();
        Due.same("a whole frame", Frames.feed(sifter, frame), 1);
        Frames.feed(sifter, Frames.head(frame, 20));
        sifter.flush();
        Due.same("the rest of one", Frames.feed(sifter, java.util.Arrays.copyOfRange(frame, 20, 25)), 0);
        Due.same("is skipped", sifter.count(2), 5);
    }
}
