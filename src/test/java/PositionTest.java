/** Promises 9, 10 and 11. */
public final class PositionTest {
    public static void main(String[] args) {
        latestOne();
        everyFix();
        otherShortFrames();
        lengths();
        signs();
        wrongInputs();
        Due.end();
    }

    private static void latestOne() {
        EpochSifter sifter = new EpochSifter();
        Frames.feed(sifter, Frames.position(1, 2, 3, 4, 5));
        Due.same("first", Asked.position(sifter), "2 1 3 4 5");
        Frames.feed(sifter, Frames.position(11, 4, 13, 14, 15));
        Due.same("second", Asked.position(sifter), "4 11 13 14 15");
        sifter.flush();
        Frames.feed(sifter, Observing.of(1, 2).frame());
        Due.same("stays", Asked.position(sifter), "4 11 13 14 15");
    }

    private static void everyFix() {
        for (int fix = 0; fix < 256; fix++) {
            EpochSifter sifter = new EpochSifter();
            Frames.feed(sifter, Frames.position(1, 3, 2, 3, 4));
            Frames.feed(sifter, Frames.position(5, fix, 6, 7, 8));
            boolean right = fix >= 2 && fix <= 4;
            Due.same("fix " + fix, Asked.position(sifter), right ? fix + " 5 6 7 8" : "3 1 2 3 4");
        }
    }

    private static void otherShortFrames() {
        int[] payload = Frames.positionPayload(1, 2, 3, 4, 5);
        int[][] sorts = {{0, 7}, {2, 7}, {7, 1}, {1, 6}, {1, 8}, {129, 7}, {1, 135}, {255, 255}};
        for (int[] sort : sorts) {
            EpochSifter sifter = new EpochSifter();
            Due.same("taken", Frames.feed(sifter, Frames.shortFrame(sort[0], sort[1], payload)), 1);
            Due.same("kind " + sort[0] + ", number " + sort[1], Asked.position(sifter), "0 0 0 0 0");
            Due.same("counts", Frames.counts(sifter), "0 1 0 1 0 0 0 0 0 -1");
        }
    }

    private static void lengths() {
        int[] payload = Frames.positionPayload(1, 2, 3, 4, 5);
        for (int length = 0; length <= 90; length++) {
            EpochSifter sifter = new EpochSifter();
            Frames.feed(sifter, Frames.shortFrame(1, 7, Frames.head(payload, length)));
            Due.same("length " + length, Asked.position(sifter), length >= 17 ? "2 1 3 4 5" : "0 0 0 0 0");
            Due.same("positions", sifter.count(7), length >= 17 ? 1 : 0);
            Due.same("foreign", sifter.count(3), length >= 17 ? 0 : 1);
        }
    }

    private static void signs() {
        int[] numbers = {0, 1, -1, 255, 256, -256, 0x12345678, 0x87654321, Integer.MIN_VALUE,
            Integer.MAX_VALUE, 473912345, -85123456, 1800000000, -900000000};
        for (int a : numbers) {
            for (int b : numbers) {
                EpochSifter sifter = new EpochSifter();
                Frames.feed(sifter, Frames.position(a, 3, b, a, b));
                Due.same("numbers", Asked.position(sifter), "3 " + a + " " + b + " " + a + " " + b);
                Due.same("place(0)", sifter.place(0), b * 0.0000001);
                Due.same("place(1)", sifter.place(1), a * 0.0000001);
                Due.same("place(2)", sifter.place(2), b * 0.001);
            }
        }
    }

    private static void wrongInputs() {
        EpochSifter sifter = new EpochSifter();
        Frames.feed(sifter, Frames.position(1, 2, 3, 4, 5));
        int[] wrong = {-1, 4, 5, Integer.MIN_VALUE, Integer.MAX_VALUE};
        for (int which : wrong) {
            Due.same("place(" + which + ")", sifter.place(which), 0.0);
            Due.same("raw(" + which + ")", sifter.raw(which), 0);
        }
        Due.same("place(3)", sifter.place(3), 0.0);
    }
}
