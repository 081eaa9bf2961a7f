/** "Terms", short frames: the second byte, KIND and NUMBER, the length, and the sums x and y. */
public final class ShortFrameBoundsTest {
    public static void main(String[] args) {
        secondByte();
        anyKindAndNumber();
        everyLength();
        lowerLengthByte();
        upperLengthByte();
        sumsBeginWithKind();
        sumsWrapAround();
        everyWrongSum();
        Due.end();
    }

    private static void secondByte() {
        Due.sentence("181 and 98 begin a SHORT frame");
        for (int second = 0; second < 256; second++) {
            EpochSifter sifter = new EpochSifter();
            Frames.feed(sifter, 181, second);
            int kept = second == 98 ? 2 : second == 181 || second == 211 ? 1 : 0;
            Due.same("kept of 181 " + second, sifter.count(8), kept);
            Due.same("skipped of 181 " + second, sifter.count(2), 2 - kept);
        }
        EpochSifter turned = new EpochSifter();
        Frames.feed(turned, 98, 181);
        Due.same("98 181", Frames.counts(turned), "0 0 1 0 0 0 0 0 1 -1");
    }

    private static void anyKindAndNumber() {
        Due.sentence("a byte KIND, a byte NUMBER");
        for (int octet = 0; octet < 256; octet++) {
            EpochSifter sifter = new EpochSifter();
            Due.same("kind " + octet, Frames.feed(sifter, Frames.shortFrame(octet, 255 - octet, 1)), 1);
            Due.same("counts", Frames.counts(sifter), "0 1 0 1 0 0 0 0 0 -1");
        }
    }

    private static void everyLength() {
        Due.sentence("two bytes LENGTH, the lower one first, 0 .. 90");
        for (int length = 0; length <= 90; length++) {
            EpochSifter sifter = new EpochSifter();
            int[] payload = new int[length];
            java.util.Arrays.fill(payload, 77);
            int[] frame = Frames.shortFrame(5, 6, payload);
            Due.same("length " + length + " before its end", Frames.feed(sifter, Frames.head(frame,
                    frame.length - 1)), 0);
            Due.same("length " + length, sifter.put(frame[frame.length - 1], 1), 1);
            Due.same("counts", Frames.counts(sifter), "0 1 0 1 0 0 0 0 0 -1");
        }
        EpochSifter sifter = new EpochSifter();
        Due.same("91 with right sums", Frames.feed(sifter, Frames.shortFrame(5, 6, new int[91])), 0);
        Due.same("all of it is skipped", sifter.count(2), 99);
    }

    private static void lowerLengthByte() {
        Due.sentence("the length, of which one byte may tell enough");
        for (int lower = 0; lower < 256; lower++) {
            EpochSifter sifter = new EpochSifter();
            Frames.feed(sifter, 181, 98, 1, 7, lower);
            int kept = lower <= 90 ? 5 : lower == 181 || lower == 211 ? 1 : 0;
            Due.same("kept with a lower byte " + lower, sifter.count(8), kept);
            Due.same("skipped with a lower byte " + lower, sifter.count(2), 5 - kept);
        }
    }

    private static void upperLengthByte() {
        Due.sentence("what follows cannot be of such a frame whatever comes: the length");
        int[] lowers = {0, 1, 90};
        for (int lower : lowers) {
            for (int upper = 0; upper < 256; upper++) {
                EpochSifter sifter = new EpochSifter();
                Frames.feed(sifter, 181, 98, 1, 7, lower, upper);
                int kept = upper == 0 ? 6 : upper == 181 || upper == 211 ? 1 : 0;
                String length = lower + " + 256 * " + upper;
                Due.same("kept with length " + length, sifter.count(8), kept);
                Due.same("skipped with length " + length, sifter.count(2), 6 - kept);
            }
        }
    }

    private static void sumsBeginWithKind() {
        Due.sentence("x and y, both 0 at first; for each byte from KIND to the end of the payload");
        EpochSifter sifter = new EpochSifter();
        // By hand: 10 14 14 14 added up are 14; 10 24 38 52 are the sums of these.
        Due.same("no payload", Frames.feed(sifter, 181, 98, 10, 4, 0, 0, 14, 52), 1);
        Due.same("all of them 0", Frames.feed(sifter, 181, 98, 0, 0, 0, 0, 0, 0), 1);
        // By hand: x 1 3 5 5 8 12, y 1 4 9 14 22 34.
        Due.same("a payload", Frames.feed(sifter, 181, 98, 1, 2, 2, 0, 3, 4, 12, 34), 1);
        Due.same("counts", Frames.counts(sifter), "0 3 0 3 0 0 0 0 0 -1");
        // With 181 and 98 in them the sums over 181 98 0 0 0 0 would be 23 and 17.
        Due.same("with the first two", Frames.feed(sifter, 181, 98, 0, 0, 0, 0, 23, 17), 0);
        Due.same("skipped", sifter.count(2), 8);
    }

    private static void sumsWrapAround() {
        Due.sentence("x grows by it, y grows by x, both mod 256");
        EpochSifter sifter = new EpochSifter();
        // x: 255 256 256 256; y: 255 255 255 255.
        Due.same("x is just 256", Frames.feed(sifter, 181, 98, 255, 1, 0, 0, 0, 255), 1);
        // x: 64 64 64 64; y: 64 128 192 256.
        Due.same("y is just 256", Frames.feed(sifter, 181, 98, 64, 0, 0, 0, 64, 0), 1);
        // x: 255 510 510 510, which are 255 254 254 254; y: 255 509 763 1017.
        Due.same("both wrap around", Frames.feed(sifter, 181, 98, 255, 255, 0, 0, 254, 249), 1);
        int[] payload = new int[90];
        java.util.Arrays.fill(payload, 255);
        Due.same("the greatest sums", Frames.feed(sifter, Frames.shortFrame(255, 255, payload)), 1);
        Due.same("counts", Frames.counts(sifter), "0 4 0 4 0 0 0 0 0 -1");
    }

    private static void everyWrongSum() {
        Due.sentence("if the frame is whole, the check: this byte is SKIPPED");
        for (int octet = 0; octet < 256; octet++) {
            boolean mark = octet == 181 || octet == 211;
            EpochSifter x = new EpochSifter();
            Due.same("x is " + octet, Frames.feed(x, 181, 98, 10, 4, 0, 0, octet, 52), octet == 14 ? 1 : 0);
            Due.same("skipped", x.count(2), octet == 14 ? 0 : 8);
            EpochSifter y = new EpochSifter();
            Due.same("y is " + octet, Frames.feed(y, 181, 98, 10, 4, 0, 0, 14, octet), octet == 52 ? 1 : 0);
            Due.same("skipped", y.count(2), octet == 52 ? 0 : mark ? 7 : 8);
        }
        EpochSifter turned = new EpochSifter();
        Due.same("y before x", Frames.feed(turned, 181, 98, 10, 4, 0, 0, 52, 14), 0);
        Due.same("skipped", turned.count(2), 8);
    }
}
