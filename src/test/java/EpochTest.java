/** Promise 4. */
public final class EpochTest {
    public static void main(String[] args) {
        EpochSifter sifter = new EpochSifter();
        Frames.feed(sifter, Observing.of(1073741823, 4095).more().block(4, 4).frame());
        Due.same("gathered only", Asked.epoch(sifter), "-1 -1 -1 -1");
        Frames.feed(sifter, Observing.of(1073741823, 4095).message(1002).block(3, 1).frame());
        Due.same("done", Asked.epoch(sifter), "1073741823 4095 19 2");
        Frames.feed(sifter, Observing.of(0, 0).more().block(4, 4).frame());
        Due.same("the older one stays", Asked.epoch(sifter), "1073741823 4095 19 2");
        Frames.feed(sifter, Observing.of(0, 0).frame());
        Due.same("the newer one", Asked.epoch(sifter), "0 0 16 2");
        Frames.feed(sifter, Observing.of(0, 0).frame());
        Due.same("the same time and station again", Asked.epoch(sifter), "0 0 0 1");
        lostOnes(sifter);
        fullOnes(sifter);
        int[] wrong = {-1, 4, 5, Integer.MIN_VALUE, Integer.MAX_VALUE};
        for (int what : wrong) {
            Due.same("epoch(" + what + ")", sifter.epoch(what), -1);
        }
        Due.end();
    }

    private static void lostOnes(EpochSifter sifter) {
        Frames.feed(sifter, Observing.of(7, 8).more().block(2, 2).frame());
        Frames.feed(sifter, Observing.of(7, 9).block(1, 1).frame());
        Due.same("another station", Asked.epoch(sifter), "7 9 1 1");
        Frames.feed(sifter, Observing.of(7, 8).more().block(2, 2).frame());
        Frames.feed(sifter, Observing.of(6, 8).block(1, 2).frame());
        Due.same("another time", Asked.epoch(sifter), "6 8 2 1");
    }

    private static void fullOnes(EpochSifter sifter) {
        for (int i = 0; i < 4; i++) {
            Frames.feed(sifter, Observing.of(7, 8).more().block(4, 3).frame());
        }
        Frames.feed(sifter, Observing.of(7, 8).block(1, 1).frame());
        Due.same("the first 40", Asked.epoch(sifter), "7 8 40 5");
    }
}
