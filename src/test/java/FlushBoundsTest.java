/** Promise 13, and an object's last call: nothing kept, as much as can be, and what stays. */
public final class FlushBoundsTest {
    public static void main(String[] args) {
        howManyWereKept();
        notCountedAsSkipped();
        restIsNoFrame();
        epochIsLost();
        noEpochIsLost();
        restStays();
        lastCall();
        Due.end();
    }

    private static void howManyWereKept() {
        Due.sentence("how many bytes were kept");
        Due.same("a new object", new EpochSifter().flush(), 0);
        int[] frame = Frames.shortFrame(3, 4, new int[90]);
        for (int n = 0; n <= 97; n++) {
            EpochSifter sifter = new EpochSifter();
            Frames.feed(sifter, Frames.head(frame, n));
            Due.same(n + " bytes", sifter.flush(), n);
            Due.same("a second time", sifter.flush(), 0);
        }
        EpochSifter whole = new EpochSifter();
        Frames.feed(whole, frame);
        Due.same("the frame is taken", whole.flush(), 0);
        Frames.feed(whole, 1, 2, 3);
        Due.same("bytes are skipped", whole.flush(), 0);
    }

    private static void notCountedAsSkipped() {
        Due.sentence("What is kept is gone (not counted as skipped)");
        EpochSifter sifter = new EpochSifter();
        Frames.feed(sifter, 9, 211, 0, 90, 1, 2);
        Due.same("before", Frames.counts(sifter), "0 0 1 0 0 0 0 0 5 -1");
        sifter.flush();
        Due.same("after", Frames.counts(sifter), "0 0 1 0 0 0 0 0 0 -1");
        // Inside what is gone there is a frame, which is gone too.
        Frames.feed(sifter, Frames.join(Frames.row(211, 0, 90), Frames.longFrame()));
        Due.same("flush()", sifter.flush(), 9);
        Due.same("no frame", Frames.counts(sifter), "0 0 1 0 0 0 0 0 0 -1");
    }

    private static void restIsNoFrame() {
        Due.sentence("What is kept is gone");
        int[] frame = {211, 0, 0, 0x47, 0xEA, 0x4B};
        for (int cut = 1; cut < frame.length; cut++) {
            EpochSifter sifter = new EpochSifter();
            Frames.feed(sifter, Frames.head(frame, cut));
            Due.same("flush()", sifter.flush(), cut);
            Due.same("the rest", Frames.feed(sifter, java.util.Arrays.copyOfRange(frame, cut, 6)), 0);
            Due.same("is skipped", sifter.count(2), 6 - cut);
            Due.same("a new frame", Frames.feed(sifter, frame), 1);
        }
    }

    private static void epochIsLost() {
        Due.sentence("the epoch that is being gathered is lost");
        EpochSifter sifter = new EpochSifter();
        Frames.feed(sifter, Observing.of(1, 2).more().block(1, 2).frame());
        Due.same("nothing is kept", sifter.flush(), 0);
        Due.same("lost", Frames.counts(sifter), "1 0 0 0 0 1 1 0 0 -1");
        Frames.feed(sifter, Observing.of(1, 2).more().frame());
        Frames.feed(sifter, 181, 98);
        Due.same("two are kept", sifter.flush(), 2);
        Due.same("one without cells is lost too", Frames.counts(sifter), "2 0 0 0 0 2 2 0 0 -1");
        Frames.feed(sifter, Observing.of(1, 2).block(1, 1).frame());
        Due.same("a new one begins", Asked.epoch(sifter), "1 2 1 1");
        Due.same("no other is lost", sifter.count(5), 2);
    }

    private static void noEpochIsLost() {
        Due.sentence("the epoch that is being gathered is lost: if none is, none is lost");
        EpochSifter sifter = new EpochSifter();
        sifter.flush();
        Due.same("a new object", sifter.count(5), 0);
        Frames.feed(sifter, Observing.of(1, 2).more().frame());
        Frames.feed(sifter, Observing.of(1, 2).frame());
        sifter.flush();
        Due.same("one that is done", Frames.counts(sifter), "2 0 0 0 1 0 2 0 0 -1");
        Frames.feed(sifter, Observing.of(1, 2).more().frame());
        sifter.flush();
        sifter.flush();
        Due.same("one, and not twice", sifter.count(5), 1);
    }

    private static void restStays() {
        Due.sentence("What is kept is gone, and the epoch that is being gathered is lost: nothing else");
        EpochSifter sifter = new EpochSifter();
        Frames.feed(sifter, Observing.of(1, 2).block(4, 4).frame());
        Frames.feed(sifter, Frames.position(1, 3, 2, 3, 4));
        Frames.feed(sifter, 9, 9);
        String before = Asked.state(sifter);
        Due.same("flush()", sifter.flush(), 0);
        Due.same("state", Asked.state(sifter), before);
        Frames.feed(sifter, 211, 0, 5);
        Due.same("flush()", sifter.flush(), 3);
        Due.same("the epoch and its cells", Asked.epoch(sifter) + " " + Asked.cell(sifter, 15),
                "1 2 16 1 44 1199169.832 8");
        Due.same("the position", Asked.position(sifter), "3 1 2 3 4");
    }

    private static void lastCall() {
        Due.sentence("An object is used for at most 512 calls after it has been made");
        EpochSifter skipping = new EpochSifter();
        for (int call = 1; call <= 511; call++) {
            Due.same("call " + call, skipping.put(0x01020304, 4), 0);
        }
        Due.same("the 512th call", skipping.count(2), 2044);
        EpochSifter taking = new EpochSifter();
        int taken = 0;
        int[] words = {0xD3000047, 0xEA4BD300, 0x0047EA4B};
        for (int call = 0; call < 510; call++) {
            taken += taking.put(words[call % 3], 4);
        }
        Due.same("frames", taken, 340);
        Due.same("the 511th call", taking.count(0), 340);
        Due.same("the 512th call", taking.count(3), 340);
    }
}
