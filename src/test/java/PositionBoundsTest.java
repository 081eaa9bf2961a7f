/** "Terms", positions: KIND and NUMBER, the length, FIX, and the signed numbers. */
public final class PositionBoundsTest {
    private static final String NONE = "0 0 0 0 0";
    private static final String TAKEN = "0 1 0 0 0 0 0 1 0 -1";
    private static final String FOREIGN = "0 1 0 1 0 0 0 0 0 -1";

    public static void main(String[] args) {
        kinds();
        numbers();
        lengths();
        bytesByHand();
        signedNumbers();
        fixes();
        otherFixChangesNothing();
        Due.end();
    }

    private static void holds(String what, int[] frame, boolean right, String due) {
        EpochSifter sifter = new EpochSifter();
        Due.same(what + ", taken", Frames.feed(sifter, frame), 1);
        Due.same(what + ", counts", Frames.counts(sifter), right ? TAKEN : FOREIGN);
        Due.same(what, Asked.position(sifter), right ? due : NONE);
    }

    private static void kinds() {
        Due.sentence("A SHORT frame with KIND 1");
        for (int kind = 0; kind < 256; kind++) {
            int[] frame = Frames.shortFrame(kind, 7, Frames.positionPayload(1, 2, 3, 4, 5));
            holds("kind " + kind, frame, kind == 1, "2 1 3 4 5");
        }
    }

    private static void numbers() {
        Due.sentence("NUMBER 7");
        for (int number = 0; number < 256; number++) {
            int[] frame = Frames.shortFrame(1, number, Frames.positionPayload(1, 2, 3, 4, 5));
            holds("number " + number, frame, number == 7, "2 1 3 4 5");
        }
    }

    private static void lengths() {
        Due.sentence("and a length of 17 or more is a POSITION");
        int[] payload = Frames.positionPayload(-1, 3, -2, -3, 0x7F000001);
        for (int length = 0; length <= 90; length++) {
            int[] longer = Frames.head(payload, length);
            // What is behind the 17 bytes is not looked at.
            if (length > 17) {
                java.util.Arrays.fill(longer, 17, length, 255);
            }
            holds("length " + length, Frames.shortFrame(1, 7, longer), length >= 17,
                    "3 -1 -2 -3 2130706433");
        }
    }

    private static void bytesByHand() {
        Due.sentence("bytes 0 .. 3 a time, 4 FIX, 5 .. 8 LATITUDE, 9 .. 12 LONGITUDE, 13 .. 16 HEIGHT");
        int[] frame = Frames.shortFrame(1, 7, 1, 2, 3, 4, 4, 5, 6, 7, 8, 9, 10, 11, 12, 13, 14, 15, 16);
        holds("all bytes apart", frame, true, "4 " + 0x04030201 + " " + 0x08070605 + " " + 0x0C0B0A09 + " "
                + 0x100F0E0D);
    }

    private static void signedNumbers() {
        Due.sentence("each of four bytes a signed number, the lowest byte first");
        int[] ends = {Integer.MIN_VALUE, Integer.MIN_VALUE + 1, -256, -1, 0, 1, 127, 128, 255, 256,
            32767, 32768, 65535, 65536, 8388608, 16777216, Integer.MAX_VALUE};
        for (int end : ends) {
            holds("time " + end, Frames.position(end, 2, 3, 4, 5), true, "2 " + end + " 3 4 5");
            holds("latitude " + end, Frames.position(1, 2, end, 4, 5), true, "2 1 " + end + " 4 5");
            holds("longitude " + end, Frames.position(1, 2, 3, end, 5), true, "2 1 3 " + end + " 5");
            holds("height " + end, Frames.position(1, 2, 3, 4, end), true, "2 1 3 4 " + end);
        }
    }

    private static void fixes() {
        Due.sentence("it is the latest one if FIX is 2 .. 4");
        for (int fix = 0; fix < 256; fix++) {
            holds("fix " + fix, Frames.position(1, fix, 3, 4, 5), fix >= 2 && fix <= 4, fix + " 1 3 4 5");
        }
    }

    private static void otherFixChangesNothing() {
        Due.sentence("Other short frames, and other FIX, are FOREIGN.");
        int[][] frames = {
            Frames.position(9, 0, 9, 9, 9), Frames.position(9, 1, 9, 9, 9), Frames.position(9, 5, 9, 9, 9),
            Frames.position(9, 255, 9, 9, 9), Frames.shortFrame(1, 7), Frames.shortFrame(1, 7, new int[16]),
            Frames.shortFrame(7, 1, Frames.positionPayload(9, 2, 9, 9, 9)),
        };
        for (int[] frame : frames) {
            EpochSifter sifter = new EpochSifter();
            Frames.feed(sifter, Frames.position(1, 3, 2, 3, 4));
            Frames.feed(sifter, Observing.of(3, 4).block(1, 2).frame());
            Frames.feed(sifter, Observing.of(3, 4).more().block(1, 4).frame());
            String before = Asked.state(sifter);
            Due.same("before", before.startsWith("2 1 0 0 1 0 2 1 0 4 epoch 3 4 2 1 ") ? 1 : 0, 1);
            Frames.feed(sifter, frame);
            Due.same("after", Asked.state(sifter), "2 2 0 1" + before.substring("2 1 0 0".length()));
        }
    }
}
