/** "Terms", long frames: the 6 bits, the length and the check. */
public final class LongFrameBoundsTest {
    /** A frame that is given out elsewhere as an example of this check, MESSAGE 1005. */
    private static final int[] KNOWN = {
        0xD3, 0x00, 0x13, 0x3E, 0xD7, 0xD3, 0x02, 0x02, 0x98, 0x0E, 0xDE, 0xEF, 0x34, 0xB4, 0xBD,
        0x62, 0xAC, 0x09, 0x41, 0x98, 0x6F, 0x33, 0x36, 0x0B, 0x98,
    };

    public static void main(String[] args) {
        upperBits();
        everyLength();
        tooGreatLengths();
        oneByteTellsEnough();
        checkOfAllBytes();
        everyWrongBit();
        wrongOrderOfTheCheck();
        Due.end();
    }

    private static void upperBits() {
        Due.sentence("two bytes with a number of 16 bits, whose upper 6 bits are 0");
        for (int bit = 2; bit <= 7; bit++) {
            EpochSifter sifter = new EpochSifter();
            Frames.feed(sifter, 211, 1 << bit);
            Due.same("bit " + bit + " of the upper byte", Frames.counts(sifter), "0 0 2 0 0 0 0 0 0 -1");
        }
        EpochSifter none = new EpochSifter();
        Frames.feed(none, 211, 0);
        Due.same("none is on", Frames.counts(none), "0 0 0 0 0 0 0 0 2 -1");
    }

    private static void everyLength() {
        Due.sentence("the lower 10 the LENGTH, 0 .. 90");
        for (int length = 0; length <= 90; length++) {
            EpochSifter sifter = new EpochSifter();
            int[] frame = Frames.longFrame(filled(length, 85));
            Due.same("length " + length + " before its end", Frames.feed(sifter, Frames.head(frame,
                    frame.length - 1)), 0);
            Due.same("length " + length, sifter.put(frame[frame.length - 1], 1), 1);
            Due.same("counts", Frames.counts(sifter), "1 0 0 1 0 0 0 0 0 -1");
        }
    }

    private static void tooGreatLengths() {
        Due.sentence("what follows cannot be of such a frame whatever comes: the length");
        for (int length = 91; length <= 255; length++) {
            if (length == 181 || length == 211) {
                continue;
            }
            EpochSifter sifter = new EpochSifter();
            Frames.feed(sifter, 211, 0, length);
            Due.same("length " + length, Frames.counts(sifter), "0 0 3 0 0 0 0 0 0 -1");
        }
        EpochSifter frame = new EpochSifter();
        Due.same("91 with a right check", Frames.feed(frame, Frames.longFrame(filled(91, 85))), 0);
        Due.same("all of it is skipped", frame.count(2), 97);
    }

    private static void oneByteTellsEnough() {
        Due.sentence("the length, of which one byte may tell enough");
        for (int upper = 1; upper <= 3; upper++) {
            EpochSifter sifter = new EpochSifter();
            Frames.feed(sifter, 211, upper);
            Due.same("length of " + 256 * upper + " or more", Frames.counts(sifter), "0 0 2 0 0 0 0 0 0 -1");
        }
    }

    private static void checkOfAllBytes() {
        Due.sentence("the CHECK: of all bytes before them in the frame");
        EpochSifter sifter = new EpochSifter();
        Due.same("a frame from elsewhere", Frames.feed(sifter, KNOWN), 1);
        Due.same("an empty frame", Frames.feed(sifter, 211, 0, 0, 0x47, 0xEA, 0x4B), 1);
        Due.same("counts", Frames.counts(sifter), "2 0 0 2 0 0 0 0 0 -1");
        // The check of an empty payload alone, or of the two bytes of the number, would be 0.
        Due.same("a check of the payload alone", Frames.feed(sifter, 211, 0, 0, 0, 0, 0), 0);
        Due.same("skipped", sifter.count(2), 6);
    }

    private static void everyWrongBit() {
        Due.sentence("if the frame is whole, the check: this byte is SKIPPED");
        int[] payload = {0, 255, 211, 181, 98};
        int[] frame = Frames.longFrame(payload);
        for (int bit = 24; bit < 8 * frame.length; bit++) {
            EpochSifter sifter = new EpochSifter();
            int[] wrong = Frames.with(frame, bit / 8, frame[bit / 8] ^ 128 >> bit % 8);
            Due.same("bit " + bit + " is wrong", Frames.feed(sifter, wrong), 0);
            Due.same("no frame", sifter.count(0) + sifter.count(1), 0);
            Due.same("skipped and kept", sifter.count(2) + sifter.count(8), frame.length);
            Due.same("211 is skipped", sifter.count(2) > 0 ? 1 : 0, 1);
        }
    }

    private static void wrongOrderOfTheCheck() {
        Due.sentence("then 3 bytes, the CHECK: 24 bits");
        EpochSifter sifter = new EpochSifter();
        Due.same("the lowest first", Frames.feed(sifter, 211, 0, 0, 0x4B, 0xEA, 0x47), 0);
        Due.same("skipped", sifter.count(2), 6);
    }

    private static int[] filled(int length, int octet) {
        int[] row = new int[length];
        java.util.Arrays.fill(row, octet);
        return row;
    }
}
