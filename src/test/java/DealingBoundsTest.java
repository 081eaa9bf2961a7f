/** "Terms", the stream and dealing: where a byte is skipped, a frame taken, or more waited for. */
public final class DealingBoundsTest {
    private static final int[] EMPTY_LONG = {211, 0, 0, 0x47, 0xEA, 0x4B};
    private static final int[] EMPTY_SHORT = {181, 98, 10, 4, 0, 0, 14, 52};

    public static void main(String[] args) {
        onlyTwoBytesBeginAFrame();
        everyBeginningWaits();
        oneByteIsSkipped();
        wrongChecksWait();
        wrongWholeFramesAreLookedInto();
        rightFramesAreNotLookedInto();
        whatIsBehindIsDealtWith();
        mostThatIsKept();
        allGoesAtOnce();
        noByteIsLost();
        Due.end();
    }

    private static void onlyTwoBytesBeginAFrame() {
        Due.sentence("If the byte is neither: this byte is SKIPPED");
        for (int octet = 0; octet < 256; octet++) {
            EpochSifter sifter = new EpochSifter();
            Due.same("taken of " + octet, sifter.put(octet, 1), 0);
            boolean mark = octet == 211 || octet == 181;
            Due.same("kept of " + octet, sifter.count(8), mark ? 1 : 0);
            Due.same("skipped of " + octet, sifter.count(2), mark ? 0 : 1);
        }
    }

    private static void everyBeginningWaits() {
        Due.sentence("If it may still become one, one waits for more.");
        int[][] frames = {
            EMPTY_LONG, EMPTY_SHORT, Frames.longFrame(1), Frames.shortFrame(1, 7, 2),
            Frames.longFrame(new int[90]), Frames.shortFrame(211, 181, new int[90]),
        };
        for (int[] frame : frames) {
            EpochSifter sifter = new EpochSifter();
            for (int i = 0; i < frame.length; i++) {
                boolean whole = i == frame.length - 1;
                String where = "byte " + i + " of " + frame.length;
                Due.same("taken at " + where, sifter.put(frame[i], 1), whole ? 1 : 0);
                Due.same("kept at " + where, sifter.count(8), whole ? 0 : i + 1);
                Due.same("skipped at " + where, sifter.count(2), 0);
            }
        }
    }

    private static void oneByteIsSkipped() {
        Due.sentence("this byte is SKIPPED, and one deals with the next one");
        skips(1, Frames.row(211), EMPTY_LONG);
        skips(1, Frames.row(181), EMPTY_SHORT);
        skips(1, Frames.row(211), EMPTY_SHORT);
        skips(1, Frames.row(181), EMPTY_LONG);
        skips(2, Frames.row(211, 0), EMPTY_LONG);
        skips(2, Frames.row(211, 0), EMPTY_SHORT);
        skips(4, Frames.row(181, 98, 1, 7), EMPTY_LONG);
        skips(4, Frames.row(181, 98, 1, 7), EMPTY_SHORT);
        skips(5, Frames.row(181, 98, 1, 7, 0), EMPTY_LONG);
        skips(5, Frames.row(181, 98, 1, 7, 0), EMPTY_SHORT);
    }

    private static void skips(int due, int[] before, int[] frame) {
        int[] all = Frames.join(before, frame);
        EpochSifter sifter = new EpochSifter();
        Due.same("taken behind " + due, Frames.feed(sifter, all), 1);
        Due.same("skipped", sifter.count(2), due);
        Due.same("kept", sifter.count(8), 0);
    }

    private static void wrongChecksWait() {
        Due.sentence("or, if the frame is whole, the check");
        int[][] frames = {EMPTY_LONG, EMPTY_SHORT, Frames.longFrame(1, 2, 3), Frames.shortFrame(1, 2, 3)};
        for (int[] frame : frames) {
            int last = frame.length - 1;
            int checkAt = frame[0] == 211 ? last - 2 : last - 1;
            for (int at = checkAt; at <= last; at++) {
                int[] wrong = Frames.with(frame, at, frame[at] ^ 1);
                EpochSifter sifter = new EpochSifter();
                Frames.feed(sifter, Frames.head(wrong, last));
                Due.same("not whole, all is kept", sifter.count(8), last);
                Due.same("whole and wrong", sifter.put(wrong[last], 1), 0);
                Due.same("all is skipped", Frames.counts(sifter), "0 0 " + (last + 1) + " 0 0 0 0 0 0 -1");
            }
        }
    }

    private static void wrongWholeFramesAreLookedInto() {
        Due.sentence("this byte is SKIPPED, and one deals with the next one: the check");
        EpochSifter later = new EpochSifter();
        int[] outer = Frames.longFrame(Frames.join(EMPTY_SHORT, EMPTY_LONG));
        int last = outer.length - 1;
        Due.same("not whole", Frames.feed(later, Frames.head(outer, last)), 0);
        Due.same("nothing is skipped yet", later.count(2), 0);
        Due.same("whole and wrong", later.put(outer[last] ^ 1, 1), 2);
        Due.same("head and check are skipped", later.count(2), 6);
        // 181 98 before a long frame make the head of a short one that ends at the very same byte.
        EpochSifter sooner = new EpochSifter();
        Due.same("two bytes behind", Frames.feed(sooner, Frames.join(Frames.row(181, 98),
                Frames.longFrame(0, 1, 2, 3, 4, 5))), 1);
        Due.same("counts", Frames.counts(sooner), "1 0 2 1 0 0 0 0 0 -1");
    }

    private static void rightFramesAreNotLookedInto() {
        Due.sentence("If the frame is whole and right, it is TAKEN");
        int[] inside = Frames.join(EMPTY_LONG, EMPTY_SHORT, Frames.row(211));
        EpochSifter sifter = new EpochSifter();
        Due.same("long", Frames.feed(sifter, Frames.longFrame(inside)), 1);
        Due.same("counts", Frames.counts(sifter), "1 0 0 1 0 0 0 0 0 -1");
        Due.same("short", Frames.feed(sifter, Frames.shortFrame(2, 2, inside)), 1);
        Due.same("counts", Frames.counts(sifter), "1 1 0 2 0 0 0 0 0 -1");
    }

    private static void whatIsBehindIsDealtWith() {
        Due.sentence("and one deals with what is behind it");
        int[] payload = new int[0];
        for (int i = 0; i < 15; i++) {
            payload = Frames.join(payload, EMPTY_LONG);
        }
        int[] outer = Frames.shortFrame(9, 9, payload);
        EpochSifter sifter = new EpochSifter();
        Due.same("all but the last byte", Frames.feed(sifter, Frames.head(outer, 97)), 0);
        Due.same("fifteen at once", sifter.put(outer[97] ^ 1, 1), 15);
        Due.same("counts", Frames.counts(sifter), "15 0 8 15 0 0 0 0 0 -1");
        EpochSifter behind = new EpochSifter();
        Frames.feed(behind, Frames.head(EMPTY_LONG, 5));
        Due.same("the last byte, one to skip, two to keep", behind.put(0x4B07D300, 4), 1);
        Due.same("counts", Frames.counts(behind), "1 0 1 1 0 0 0 0 2 -1");
    }

    private static void mostThatIsKept() {
        Due.sentence("those that are not dealt with yet are kept, at most 140");
        EpochSifter sifter = new EpochSifter();
        int[] shortest = Frames.shortFrame(3, 4, new int[90]);
        Frames.feed(sifter, Frames.head(shortest, 97));
        Due.same("of a short frame", sifter.count(8), 97);
        Due.same("its last byte and three more", sifter.put(shortest[97] << 24 | 0xD3005A, 4), 1);
        Due.same("kept behind it", sifter.count(8), 3);
        sifter.flush();
        int[] longest = Frames.longFrame(new int[90]);
        Frames.feed(sifter, Frames.head(longest, 95));
        Due.same("of a long frame", sifter.count(8), 95);
        Due.same("its last byte and three more", sifter.put(longest[95] << 24 | 0xB56201, 4), 1);
        Due.same("kept behind it", sifter.count(8), 3);
    }

    private static void allGoesAtOnce() {
        Due.sentence("then one deals with what can be dealt with");
        EpochSifter sifter = new EpochSifter();
        Frames.feed(sifter, Frames.head(Frames.row(181, 98, 3, 4, 90, 0), 97));
        Due.same("kept", sifter.count(8), 97);
        Due.same("the most bytes for one call", sifter.put(0, 4), 0);
        Due.same("skipped", sifter.count(2), 101);
        Due.same("kept then", sifter.count(8), 0);
    }

    private static void noByteIsLost() {
        Due.sentence("The STREAM is a row of bytes");
        int[][] rows = {{211, 0, 90}, {181, 98, 1, 7, 90, 0}, {211, 0, 90, 181, 98, 0, 0, 90, 0},
            {211}, {181}, {211, 0}, {181, 98}, {211, 181, 98, 90, 0}};
        for (int[] row : rows) {
            EpochSifter sifter = new EpochSifter();
            int at = 0;
            for (int put = 1; put <= 170; put++) {
                int word = 0;
                for (int i = 0; i < 4; i++) {
                    word = word << 8 | row[at++ % row.length];
                }
                sifter.put(word, 4);
                int kept = sifter.count(8);
                Due.same("kept and skipped of " + at, kept + sifter.count(2), at);
                Due.same("no more than of one frame", kept <= 97 ? 1 : 0, 1);
            }
        }
    }
}
