/** Promise 12: each n, the lower 24 bits of c, and single bits. */
public final class CheckBoundsTest {
    public static void main(String[] args) {
        singleBits();
        lowestBytes();
        highestFirst();
        lowerBitsOfTheCheck();
        neverMoreThan24Bits();
        otherNumbersAreRefused();
        nothingIsChanged();
        Due.end();
    }

    private static void singleBits() {
        Due.sentence("eight times: c = 2 * c, and if bit 24 is on then, c = c xor 25578747");
        EpochSifter sifter = new EpochSifter();
        Due.same("no bit", sifter.check(0, 0, 1), 0);
        Due.same("the lowest bit comes out last", sifter.check(0, 1, 1), 25578747 - (1 << 24));
        // One doubling more than for the lowest bit: 0x864CFB * 2 has bit 24 on.
        Due.same("the next one", sifter.check(0, 2, 1), 0x864CFB * 2 ^ 25578747);
        for (int bit = 0; bit < 8; bit++) {
            Due.same("bit " + bit, sifter.check(0, 1 << bit, 1), Frames.check(new int[] {1 << bit}));
        }
        Due.same("all of them", sifter.check(0, 255, 1), Frames.check(new int[] {255}));
    }

    private static void lowestBytes() {
        Due.sentence("over the n lowest bytes of word");
        EpochSifter sifter = new EpochSifter();
        int[] all = {0xFE, 0xDC, 0xBA, 0x98};
        for (int n = 1; n <= 4; n++) {
            int[] lowest = java.util.Arrays.copyOfRange(all, 4 - n, 4);
            Due.same("n is " + n, sifter.check(0, 0xFEDCBA98, n), Frames.check(lowest));
        }
        Due.same("upper bytes are left out", sifter.check(0, 0xFFFFFF00, 1), 0);
        Due.same("upper bytes are left out", sifter.check(0, 0xFFFF0000, 2), 0);
        Due.same("upper byte is left out", sifter.check(0, 0xFF000000, 3), 0);
        Due.same("all four count", sifter.check(0, 0x01000000, 4), Frames.check(new int[] {1, 0, 0, 0}));
    }

    private static void highestFirst() {
        Due.sentence("the highest of them first, after a check c");
        EpochSifter sifter = new EpochSifter();
        Due.same("an empty frame at once", sifter.check(0, 0xD30000, 3), 0x47EA4B);
        int bytewise = sifter.check(sifter.check(sifter.check(0, 0xD3, 1), 0, 1), 0, 1);
        Due.same("byte by byte", bytewise, 0x47EA4B);
        Due.same("a frame with its own check", sifter.check(0x47EA4B, 0x47EA4B, 3), 0);
        Due.same("the lowest first would show", sifter.check(0, 0x0000D3, 3) != 0x47EA4B ? 1 : 0, 1);
    }

    private static void lowerBitsOfTheCheck() {
        Due.sentence("a check c (of the lower 24 bits)");
        EpochSifter sifter = new EpochSifter();
        int[] checks = {0, 1, 0x800000, 0xFFFFFF, 0x47EA4B};
        int[] uppers = {0x01000000, 0x02000000, 0x80000000, 0xFF000000, 0x7F000000};
        for (int c : checks) {
            for (int n = 1; n <= 4; n++) {
                int due = sifter.check(c, 0x12345678, n);
                for (int upper : uppers) {
                    Due.same("upper bits " + upper, sifter.check(c | upper, 0x12345678, n), due);
                }
            }
        }
        Due.same("all bits of c", sifter.check(-1, 255, 1), 16776960);
        // A check's highest byte is taken away by the same byte, and the other two move up.
        Due.same("the lower 16 bits move up", sifter.check(0x12ABCD, 0x12, 1), 0xABCD00);
    }

    private static void neverMoreThan24Bits() {
        Due.sentence("24 bits");
        EpochSifter sifter = new EpochSifter();
        int[] words = {0, 1, -1, Integer.MIN_VALUE, Integer.MAX_VALUE, 0x80808080};
        for (int c : words) {
            for (int word : words) {
                for (int n = 1; n <= 4; n++) {
                    int answer = sifter.check(c, word, n);
                    Due.same("upper bits", answer >> 24, 0);
                }
            }
        }
    }

    private static void otherNumbersAreRefused() {
        Due.sentence("-1, refused, if n is not 1 .. 4.");
        EpochSifter sifter = new EpochSifter();
        for (int n : PutBoundsTest.WRONG_NUMBERS) {
            Due.same("check(0, 0, " + n + ")", sifter.check(0, 0, n), -1);
            Due.same("check(-1, -1, " + n + ")", sifter.check(-1, -1, n), -1);
        }
    }

    private static void nothingIsChanged() {
        Due.sentence("The check of a long frame over the n lowest bytes of word, not of the stream");
        EpochSifter sifter = new EpochSifter();
        Frames.feed(sifter, 211, 0, 0, 0x47);
        String before = Asked.state(sifter);
        sifter.check(0, 0xD3000047, 4);
        sifter.check(0, 0xEA4B, 2);
        Due.same("state", Asked.state(sifter), before);
        Due.same("the frame goes on", sifter.put(0xEA4B, 2), 1);
    }
}
