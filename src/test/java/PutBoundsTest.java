/** Promise 2, and refused calls: each n, the bytes of a word, and how many frames were taken. */
public final class PutBoundsTest {
    static final int[] WRONG_NUMBERS = {0, 5, -1, -2, -3, -4, 6, 8, 32, 255, 257, 260, 65537,
        Integer.MIN_VALUE, Integer.MIN_VALUE + 1, Integer.MIN_VALUE + 4, Integer.MAX_VALUE};

    public static void main(String[] args) {
        lowestBytes();
        highestFirst();
        everyByteValue();
        howManyWereTaken();
        otherNumbersAreRefused();
        refusedCallsChangeNothing();
        Due.end();
    }

    private static void lowestBytes() {
        Due.sentence("The n lowest bytes of word");
        for (int n = 1; n <= 4; n++) {
            EpochSifter sifter = new EpochSifter();
            Due.same("n is " + n, sifter.put(0x01020304, n), 0);
            Due.same("skipped of " + n, sifter.count(2), n);
        }
        EpochSifter upper = new EpochSifter();
        upper.put(0xD3B5D300, 1);
        upper.put(0xD3B50000, 2);
        upper.put(0xD3000000, 3);
        Due.same("upper bytes do not come", Frames.counts(upper), "0 0 6 0 0 0 0 0 0 -1");
        EpochSifter lower = new EpochSifter();
        lower.put(0x000000D3, 1);
        lower.put(0xFFFFFF00, 1);
        Due.same("211 0 is kept", Frames.counts(lower), "0 0 0 0 0 0 0 0 2 -1");
    }

    private static void highestFirst() {
        Due.sentence("the highest of them first, come to the stream");
        int[][] cuts = {{0xD3, 0x00, 0x00, 0x47, 0xEA, 0x4B}, {0xD300, 0x0047, 0xEA4B},
            {0xD30000, 0x47EA4B}, {0xD3000047, 0xEA4B}};
        int[][] sizes = {{1, 1, 1, 1, 1, 1}, {2, 2, 2}, {3, 3}, {4, 2}};
        for (int i = 0; i < cuts.length; i++) {
            EpochSifter sifter = new EpochSifter();
            for (int j = 0; j < cuts[i].length; j++) {
                int due = j == cuts[i].length - 1 ? 1 : 0;
                Due.same("cut " + i + ", word " + j, sifter.put(cuts[i][j], sizes[i][j]), due);
            }
            Due.same("counts", Frames.counts(sifter), "1 0 0 1 0 0 0 0 0 -1");
        }
        EpochSifter order = new EpochSifter();
        order.put(0xD3D3D3D3, 4);
        order.put(0x00D3, 2);
        Due.same("211 four times, 0, 211", Frames.counts(order), "0 0 5 0 0 0 0 0 1 -1");
    }

    private static void everyByteValue() {
        Due.sentence("The n lowest bytes of word, whatever they are, come to the stream");
        for (int octet = 0; octet < 256; octet++) {
            EpochSifter sifter = new EpochSifter();
            int[] frame = Frames.longFrame(octet, octet, octet, octet, 255 - octet);
            Due.same("a frame of " + octet, Frames.feed(sifter, frame), 1);
        }
    }

    private static void howManyWereTaken() {
        Due.sentence("How many frames were taken.");
        EpochSifter sifter = new EpochSifter();
        Due.same("none, nothing kept", sifter.put(7, 1), 0);
        Due.same("none, all kept", sifter.put(0xD3000047, 4), 0);
        Due.same("one", sifter.put(0xEA4B, 2), 1);
        Due.same("not the ones before", sifter.put(0, 4), 0);
        int[] two = Frames.join(Frames.row(211, 0, 13), Frames.longFrame(), Frames.shortFrame(3, 3));
        Frames.feed(sifter, two);
        Due.same("one long and one short", sifter.put(0, 2), 2);
        Due.same("a foreign frame is taken", Frames.feed(sifter, Frames.longFrame(1, 2)), 1);
        Due.same("an observation is taken", Frames.feed(sifter, Observing.of(1, 2).frame()), 1);
        Due.same("a position is taken", Frames.feed(sifter, Frames.position(1, 2, 3, 4, 5)), 1);
        Due.same("long and short", sifter.count(0) + sifter.count(1), 6);
    }

    private static void otherNumbersAreRefused() {
        Due.sentence("-1, refused, if n is not 1 .. 4.");
        for (int n : WRONG_NUMBERS) {
            EpochSifter sifter = new EpochSifter();
            Due.same("put(-1, " + n + ")", sifter.put(-1, n), -1);
            Due.same("put(0, " + n + ")", sifter.put(0, n), -1);
        }
        for (int n = 1; n <= 4; n++) {
            Due.same("put(-1, " + n + ")", new EpochSifter().put(-1, n), 0);
        }
    }

    private static void refusedCallsChangeNothing() {
        Due.sentence("A call that is refused changes nothing.");
        EpochSifter fresh = new EpochSifter();
        EpochSifter full = new EpochSifter();
        Frames.feed(full, Observing.of(1, 2).block(3, 3).frame());
        Frames.feed(full, Frames.position(1, 3, 2, 3, 4));
        Frames.feed(full, Observing.of(3, 4).more().block(4, 4).frame());
        // The frame's last byte is lacking, and each refused word has it.
        Frames.feed(full, 211, 0, 0, 0x47, 0xEA);
        for (EpochSifter sifter : new EpochSifter[] {fresh, full}) {
            String before = Asked.state(sifter);
            for (int n : WRONG_NUMBERS) {
                Due.same("put, " + n, sifter.put(0x4B4B4B4B, n), -1);
                Due.same("check, " + n, sifter.check(0, 0x4B4B4B4B, n), -1);
            }
            Due.same("state", Asked.state(sifter), before);
        }
        Due.same("the frame still comes", full.put(0x4B, 1), 1);
    }
}
