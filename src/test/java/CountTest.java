/** Promise 3. */
public final class CountTest {
    public static void main(String[] args) {
        countsEach();
        gatheredCells();
        positionsAndForeign();
        otherNumbers();
        Due.end();
    }

    private static void countsEach() {
        EpochSifter sifter = new EpochSifter();
        Frames.feed(sifter, Frames.longFrame(1));
        Due.same("long, foreign", Frames.counts(sifter), "1 0 0 1 0 0 0 0 0 -1");
        Frames.feed(sifter, Frames.shortFrame(1, 2));
        Due.same("short, foreign", Frames.counts(sifter), "1 1 0 2 0 0 0 0 0 -1");
        Frames.feed(sifter, 1, 2, 3);
        Due.same("skipped", Frames.counts(sifter), "1 1 3 2 0 0 0 0 0 -1");
        Frames.feed(sifter, Observing.of(1, 1).frame());
        Due.same("done", Frames.counts(sifter), "2 1 3 2 1 0 1 0 0 -1");
        Frames.feed(sifter, Observing.of(1, 1).more().frame());
        Due.same("gathered", Frames.counts(sifter), "3 1 3 2 1 0 2 0 0 0");
        Frames.feed(sifter, Observing.of(2, 1).more().block(1, 3).frame());
        Due.same("another time", Frames.counts(sifter), "4 1 3 2 1 1 3 0 0 3");
        Frames.feed(sifter, Observing.of(2, 2).more().block(1, 2).frame());
        Due.same("another station", Frames.counts(sifter), "5 1 3 2 1 2 4 0 0 2");
        Frames.feed(sifter, Observing.of(1, 2).block(1, 2).frame());
        Due.same("lost and done at once", Frames.counts(sifter), "6 1 3 2 2 3 5 0 0 -1");
        Frames.feed(sifter, Frames.position(1, 3, 1, 1, 1));
        Due.same("position", Frames.counts(sifter), "6 2 3 2 2 3 5 1 0 -1");
        Frames.feed(sifter, 181, 98, 5);
        Due.same("kept", Frames.counts(sifter), "6 2 3 2 2 3 5 1 3 -1");
    }

    private static void gatheredCells() {
        EpochSifter sifter = new EpochSifter();
        int[] due = {16, 32, 40, 40};
        for (int cells : due) {
            Frames.feed(sifter, Observing.of(1, 1).more().block(4, 4).frame());
            Due.same("cells gathered", sifter.count(9), cells);
        }
        Frames.feed(sifter, Observing.of(1, 1).frame());
        Due.same("none gathered", sifter.count(9), -1);
        Frames.feed(sifter, Observing.of(1, 1).more().block(1, 1).frame());
        Due.same("gathered anew", sifter.count(9), 1);
    }

    private static void positionsAndForeign() {
        for (int fix = 0; fix < 256; fix++) {
            EpochSifter sifter = new EpochSifter();
            Frames.feed(sifter, Frames.position(1, fix, 1, 1, 1));
            boolean right = fix >= 2 && fix <= 4;
            Due.same("positions with fix " + fix, sifter.count(7), right ? 1 : 0);
            Due.same("foreign with fix " + fix, sifter.count(3), right ? 0 : 1);
        }
    }

    private static void otherNumbers() {
        EpochSifter sifter = new EpochSifter();
        Frames.feed(sifter, 1, 2, 3);
        int[] wrong = {-1, 10, 11, 255, Integer.MIN_VALUE, Integer.MAX_VALUE};
        for (int what : wrong) {
            Due.same("count(" + what + ")", sifter.count(what), -1);
        }
    }
}
