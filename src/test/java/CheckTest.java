/** Promise 12. */
public final class CheckTest {
    public static void main(String[] args) {
        EpochSifter sifter = new EpochSifter();
        // The check over 0xD3 0x00 0x00 stands in the shared tests' empty frame: 0x47EA4B.
        Due.same("empty frame", sifter.check(0, 0xD30000, 3), 0x47EA4B);
        Due.same("one bit", sifter.check(0, 1, 1), 0x864CFB);
        Due.same("zero", sifter.check(0, 0, 4), 0);
        Due.same("upper bytes are left out", sifter.check(0, 0xABCDEF01, 1), 0x864CFB);
        Due.same("upper bits of c are left out", sifter.check(0xFF000000, 1, 1), 0x864CFB);
        Due.same("all bits of c", sifter.check(-1, 255, 1), 0xFFFF00);
        everyByte(sifter);
        rows();
        wrongInputs();
        Due.end();
    }

    private static void everyByte(EpochSifter sifter) {
        for (int octet = 0; octet < 256; octet++) {
            Due.same("check over " + octet, sifter.check(0, octet, 1), Frames.check(new int[] {octet}));
        }
    }

    private static void rows() {
        EpochSifter sifter = new EpochSifter();
        int[] words = {0x01020304, 0xFFFEFDFC, 0x80000000, 0x7F00FF01, -1};
        for (int word : words) {
            int[] all = {word >>> 24, word >> 16 & 255, word >> 8 & 255, word & 255};
            for (int n = 1; n <= 4; n++) {
                int[] lowest = java.util.Arrays.copyOfRange(all, 4 - n, 4);
                Due.same("check(0, " + word + ", " + n + ")", sifter.check(0, word, n),
                        Frames.check(lowest));
                Due.same("carried on", sifter.check(sifter.check(0, word, 4), word, n),
                        Frames.check(Frames.join(all, lowest)));
            }
        }
        Due.same("nothing is changed", Frames.counts(sifter), "0 0 0 0 0 0 0 0 0 -1");
    }

    private static void wrongInputs() {
        EpochSifter sifter = new EpochSifter();
        int[] wrong = {0, 5, -1, Integer.MIN_VALUE, Integer.MAX_VALUE};
        for (int n : wrong) {
            Due.same("check(1, 2, " + n + ")", sifter.check(1, 2, n), -1);
        }
    }
}
