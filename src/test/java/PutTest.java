/** Promise 2: how bytes come in, and how frames are hunted for. */
public final class PutTest {
    public static void main(String[] args) {
        refusesOtherNumbers();
        putsHighestByteFirst();
        tellsHowManyWereTaken();
        longHeadTellsEarly();
        shortHeadTellsEarly();
        longestFrames();
        wrongChecks();
        frameInsideAWrongOne();
        framesInEveryCut();
        Due.end();
    }

    private static void refusesOtherNumbers() {
        EpochSifter sifter = new EpochSifter();
        sifter.put(211, 1);
        int[] wrong = {0, 5, -1, 8, Integer.MIN_VALUE, Integer.MAX_VALUE};
        for (int n : wrong) {
            Due.same("put(0, " + n + ")", sifter.put(0, n), -1);
        }
        Due.same("counts", Frames.counts(sifter), "0 0 0 0 0 0 0 0 1 -1");
    }

    private static void putsHighestByteFirst() {
        for (int n = 1; n <= 4; n++) {
            EpochSifter sifter = new EpochSifter();
            // Only the lowest byte can begin a frame, so the others are skipped before it.
            Due.same("put", sifter.put(0xD3D3D300 >>> 8 * (4 - n) << 8 | 211, n), 0);
            Due.same("kept of " + n, sifter.count(8), 1);
            Due.same("skipped of " + n, sifter.count(2), n - 1);
        }
        EpochSifter sifter = new EpochSifter();
        Due.same("211 0 0 71", sifter.put(0xD3000047, 4), 0);
        Due.same("upper bytes are left out", sifter.put(0xFFFFEA4B, 2), 1);
        Due.same("counts", Frames.counts(sifter), "1 0 0 1 0 0 0 0 0 -1");
    }

    private static void tellsHowManyWereTaken() {
        EpochSifter sifter = new EpochSifter();
        // The check of the outer frame is wrong by one bit; inside it are two right ones.
        int[] inside = Frames.join(Frames.longFrame(), Frames.shortFrame(9, 9), Frames.row(1, 2));
        int[] outer = Frames.longFrame(inside);
        int[] wrong = Frames.with(outer, outer.length - 1, outer[outer.length - 1] ^ 1);
        Due.same("all but the last byte", Frames.feed(sifter, Frames.head(wrong, wrong.length - 1)), 0);
        Due.same("two at once", sifter.put(wrong[wrong.length - 1], 1), 2);
        // The last 5 bytes: 1, 2 and the three of the outer check are skipped, with the 3 of its head.
        Due.same("counts", Frames.counts(sifter), "1 1 8 2 0 0 0 0 0 -1");
        Due.same("whole outer", Frames.feed(sifter, outer), 1);
        Due.same("counts", Frames.counts(sifter), "2 1 8 3 0 0 0 0 0 -1");
    }

    private static void longHeadTellsEarly() {
        for (int second = 0; second < 256; second++) {
            if (second == 211 || second == 181) {
                continue;
            }
            EpochSifter sifter = new EpochSifter();
            Frames.feed(sifter, 211, second);
            Due.same("kept of 211 " + second, sifter.count(8), second == 0 ? 2 : 0);
            Due.same("skipped of 211 " + second, sifter.count(2), second == 0 ? 0 : 2);
        }
        for (int third = 0; third < 256; third++) {
            EpochSifter sifter = new EpochSifter();
            Frames.feed(sifter, 211, 0, third);
            int kept = third <= 90 ? 3 : third == 211 || third == 181 ? 1 : 0;
            Due.same("kept of 211 0 " + third, sifter.count(8), kept);
            Due.same("skipped of 211 0 " + third, sifter.count(2), 3 - kept);
        }
        EpochSifter again = new EpochSifter();
        Frames.feed(again, 211, 211, 0);
        Due.same("211 211 0", Frames.counts(again), "0 0 1 0 0 0 0 0 2 -1");
    }

    private static void shortHeadTellsEarly() {
        for (int last = 0; last < 256; last++) {
            boolean mark = last == 211 || last == 181;
            int start = mark ? 1 : 0;
            EpochSifter second = new EpochSifter();
            Frames.feed(second, 181, last);
            Due.same("kept of 181 " + last, second.count(8), last == 98 ? 2 : start);
            EpochSifter low = new EpochSifter();
            Frames.feed(low, 181, 98, 1, 7, last);
            Due.same("kept of a lower length " + last, low.count(8), last <= 90 ? 5 : start);
            EpochSifter high = new EpochSifter();
            Frames.feed(high, 181, 98, 1, 7, 4, last);
            Due.same("kept of an upper length " + last, high.count(8), last == 0 ? 6 : start);
            Due.same("skipped then", high.count(2), last == 0 ? 0 : 6 - start);
        }
        EpochSifter any = new EpochSifter();
        Frames.feed(any, 181, 98, 211, 181);
        Due.same("any kind and number", any.count(8), 4);
    }

    private static void longestFrames() {
        EpochSifter sifter = new EpochSifter();
        int[] payload = new int[90];
        Due.same("long, 90", Frames.feed(sifter, Frames.longFrame(payload)), 1);
        Due.same("short, 90", Frames.feed(sifter, Frames.shortFrame(3, 4, payload)), 1);
        Due.same("long, 91", Frames.feed(sifter, Frames.longFrame(new int[91])), 0);
        Due.same("short, 91", Frames.feed(sifter, Frames.shortFrame(3, 4, new int[91])), 0);
        sifter.flush();
        Due.same("long, 256", Frames.feed(sifter, Frames.longFrame(new int[256])), 0);
        sifter.flush();
        int[] frame = Frames.shortFrame(3, 4, payload);
        Due.same("all but one", Frames.feed(sifter, Frames.head(frame, 97)), 0);
        Due.same("kept", sifter.count(8), 97);
        // The frame's last byte comes first in the word, and three more lie behind it.
        Due.same("with three more", sifter.put(frame[97] << 24 | 211 << 16 | 90, 4), 1);
        Due.same("kept then", sifter.count(8), 3);
    }

    private static void wrongChecks() {
        int[] longOne = Frames.longFrame(1, 2, 3, 4);
        int[] shortOne = Frames.shortFrame(1, 2, 3, 4);
        for (int[] frame : new int[][] {longOne, shortOne}) {
            for (int back = 1; back <= 7; back++) {
                EpochSifter sifter = new EpochSifter();
                int at = frame.length - back;
                int[] wrong = Frames.with(frame, at, frame[at] ^ 128);
                Due.same("wrong byte " + at, Frames.feed(sifter, wrong), 0);
                Due.same("frames", sifter.count(0) + sifter.count(1), 0);
                EpochSifter waiting = new EpochSifter();
                Frames.feed(waiting, Frames.head(wrong, frame.length - 1));
                boolean early = frame == shortOne && (back == 5 || back == 6);
                Due.same("waits for the whole of it " + at, waiting.count(8) > 0 ? 1 : 0, early ? 0 : 1);
            }
        }
        EpochSifter sifter = new EpochSifter();
        int end = shortOne.length;
        int[] swapped = Frames.with(Frames.with(shortOne, end - 2, shortOne[end - 1]), end - 1,
                shortOne[end - 2]);
        Due.same("x and y changed about", Frames.feed(sifter, swapped), 0);
        Due.same("skipped", sifter.count(2), end);
    }

    private static void frameInsideAWrongOne() {
        EpochSifter sifter = new EpochSifter();
        int[] inner = Frames.position(1, 2, 3, 4, 5);
        // A head that promises 40 bytes holds the frame back until it turns out wrong.
        Frames.feed(sifter, Frames.join(Frames.row(211, 0, 40), inner));
        Due.same("held back", Frames.counts(sifter), "0 0 0 0 0 0 0 0 28 -1");
        int taken = Frames.feed(sifter, new int[17]);
        Due.same("still held back", taken, 0);
        Due.same("let go", sifter.put(0, 1), 1);
        Due.same("counts", Frames.counts(sifter), "0 1 21 0 0 0 0 1 0 -1");
    }

    private static void framesInEveryCut() {
        int[] all = Frames.join(Frames.row(7, 211, 0, 91), Frames.longFrame(5, 211, 0, 6),
                Frames.row(181), Frames.shortFrame(181, 98, 211, 0), Frames.row(98),
                Observing.of(9, 8).block(2, 3).frame(), Frames.position(1, 4, 2, 3, 4), Frames.row(181, 98));
        for (int n = 1; n <= 4; n++) {
            EpochSifter sifter = new EpochSifter();
            int taken = 0;
            int at = 0;
            while (at < all.length) {
                int size = Math.min(n, all.length - at);
                int word = 0;
                for (int i = 0; i < size; i++) {
                    word = word << 8 | all[at + i];
                }
                taken += sifter.put(word, size);
                at += size;
            }
            Due.same("taken in cuts of " + n, taken, 4);
            Due.same("counts in cuts of " + n, Frames.counts(sifter), "2 2 6 2 1 0 1 1 2 -1");
        }
    }
}
